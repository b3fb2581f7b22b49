/-! level 2: text, the tokens of the tape; the class' way over them -/
def tx_kd (b : Nat → Nat) (L q : Nat) : Nat := if q < L then (if 97 ≤ b q ∧ b q ≤ 122 then 1 else if 48 ≤ b q ∧ b q ≤ 57 then 2 else 3) else 0
def tx_sk (b : Nat → Nat) : Nat → Nat → Nat
  | 0, p => p
  | r + 1, p => if b p = 32 then tx_sk b r (p + 1) else p
def tx_ru (b : Nat → Nat) (L k : Nat) : Nat → Nat → Nat
  | 0, p => p
  | r + 1, p => if tx_kd b L p = k then tx_ru b L k r (p + 1) else p
def tx_e (b : Nat → Nat) (L s : Nat) : Nat := if tx_kd b L s = 0 then s else if tx_kd b L s = 3 then s + 1 else tx_ru b L (tx_kd b L s) (L - s) s
def tx_so (b : Nat → Nat) (L p k0 s : Nat) : Nat := if (tx_kd b L s = 1 ∨ tx_kd b L s = 2) ∧ (k0 = 1 ∨ k0 = 2) ∧ s = p then 4 else if tx_kd b L s = 2 ∧ 4 < tx_e b L s - s then 4 else tx_kd b L s
def tx_sc (b : Nat → Nat) (L p k0 : Nat) : Nat × Nat × Nat := (tx_so b L p k0 (tx_sk b (L - p) p), tx_sk b (L - p) p, tx_e b L (tx_sk b (L - p) p))
def tx_tk (b : Nat → Nat) (L : Nat) : Nat → Nat × Nat × Nat
  | 0 => tx_sc b L 0 0
  | i + 1 => tx_sc b L (tx_tk b L i).2.2 (tx_tk b L i).1
theorem tx_kd3 (b : Nat → Nat) (L q : Nat) : tx_kd b L q ≤ 3 := by
  unfold tx_kd
  split
  · split
    · omega
    · split <;> omega
  · omega
theorem tx_kdL {b : Nat → Nat} {L q : Nat} (h : tx_kd b L q ≠ 0) : q < L := by
  unfold tx_kd at h
  by_cases g : q < L
  · exact g
  · rw [if_neg g] at h; exact absurd rfl h
theorem tx_kd0 {b : Nat → Nat} {L q : Nat} (h : q < L) : tx_kd b L q ≠ 0 := by
  unfold tx_kd
  rw [if_pos h]
  split
  · omega
  · split <;> omega
theorem tx_skB (b : Nat → Nat) : ∀ r p, p ≤ tx_sk b r p ∧ tx_sk b r p ≤ p + r := by
  intro r
  induction r with
  | zero => intro p; simp [tx_sk]
  | succ r ih =>
    intro p
    simp only [tx_sk]
    split
    · have := ih (p + 1); omega
    · omega
theorem tx_ruB (b : Nat → Nat) (L k : Nat) : ∀ r p, p ≤ tx_ru b L k r p ∧ tx_ru b L k r p ≤ p + r := by
  intro r
  induction r with
  | zero => intro p; simp [tx_ru]
  | succ r ih =>
    intro p
    simp only [tx_ru]
    split
    · have := ih (p + 1); omega
    · omega
theorem tx_ru1 {b : Nat → Nat} {L k s : Nat} (hs : s < L) (h : tx_kd b L s = k) : tx_ru b L k (L - s) s = tx_ru b L k (L - (s + 1)) (s + 1) := by
  obtain ⟨r, hr⟩ : ∃ r, L - s = r + 1 := ⟨L - s - 1, by omega⟩
  have hr2 : L - (s + 1) = r := by omega
  rw [hr, hr2]
  simp only [tx_ru, if_pos h]
theorem tx_eB {b : Nat → Nat} {L s : Nat} (hs : s ≤ L) : s ≤ tx_e b L s ∧ tx_e b L s ≤ L ∧ (s < L → s + 1 ≤ tx_e b L s) := by
  unfold tx_e
  by_cases h0 : tx_kd b L s = 0
  · rw [if_pos h0]
    refine ⟨by omega, by omega, fun h => absurd h0 (tx_kd0 h)⟩
  · have hL := tx_kdL h0
    rw [if_neg h0]
    by_cases h3 : tx_kd b L s = 3
    · rw [if_pos h3]; omega
    · rw [if_neg h3, tx_ru1 hL rfl]
      have := tx_ruB b L (tx_kd b L s) (L - (s + 1)) (s + 1)
      omega
theorem tx_uu (M : Mem) (k i : Nat) (x y : Int32) : bw_up (bw_up M k i x) k i y = bw_up M k i y := by
  funext a c
  rw [z_up, z_up, z_up]
  split <;> rfl
theorem tx_ue {M : Mem} {k i : Nat} {x : Int32} (h : M k i = x) : bw_up M k i x = M := by
  funext a c
  rw [z_up, ← h]
  split
  · next g => rw [g.1, g.2]
  · rfl
/-- what the class keeps of the tape -/
def tx_cT (b : Nat → Nat) (L : Nat) (M : Mem) : Prop := M 16 1 = nI L ∧ ∀ i, i < L → M 17 i = nI (b i)
theorem tx_sA {b : Nat → Nat} {L q : Nat} {M : Mem} (hL : L ≤ 96) (hb : ∀ i, i < L → b i < 256) (h : tx_cT b L M) (hq : q ≤ 96) : f_X7_sortAt M (nI q) = some (nI (tx_kd b L q)) := by
  obtain ⟨h1, h2⟩ := h
  unfold f_X7_sortAt tx_kd
  rw [h1]
  by_cases g : q < L
  · have e : f_X9_isWithin (nI q) 0 (nI L - 1) = 1 := by
      unfold f_X9_isWithin
      rw [if_neg (nI_pos (by omega)), l_1, pk_sub (by omega), if_neg (nI_nlt (by omega) (by omega))]
    have hbq := hb q g
    rw [e, if_neg (by decide), z_ib (by omega) (by omega), if_pos rfl, nI_clamp (by omega), h2 q g, if_pos g]
    by_cases a1 : b q < 97
    · rw [l_97, if_pos (nI_lt a1 (by omega)), if_neg (show ¬ (97 ≤ b q ∧ b q ≤ 122) by omega)]
      by_cases a2 : b q < 48
      · rw [l_48, if_pos (nI_lt a2 (by omega)), if_neg (show ¬ (48 ≤ b q ∧ b q ≤ 57) by omega)]; rfl
      · rw [l_48, if_neg (nI_nlt (by omega) (by omega))]
        by_cases a3 : 57 < b q
        · rw [l_57, if_pos (nI_lt a3 (by omega)), if_neg (show ¬ (48 ≤ b q ∧ b q ≤ 57) by omega)]; rfl
        · rw [l_57, if_neg (nI_nlt (by omega) (by omega)), if_pos (show 48 ≤ b q ∧ b q ≤ 57 by omega)]; rfl
    · rw [l_97, if_neg (nI_nlt (by omega) (by omega))]
      by_cases a4 : 122 < b q
      · rw [l_122, if_pos (nI_lt a4 (by omega)), l_48, if_neg (nI_nlt (by omega) (by omega)), l_57, if_pos (nI_lt (by omega) (by omega)), if_neg (show ¬ (97 ≤ b q ∧ b q ≤ 122) by omega), if_neg (show ¬ (48 ≤ b q ∧ b q ≤ 57) by omega)]; rfl
      · rw [l_122, if_neg (nI_nlt (by omega) (by omega)), if_pos (show 97 ≤ b q ∧ b q ≤ 122 by omega)]; rfl
  · have e : f_X9_isWithin (nI q) 0 (nI L - 1) = 0 := by
      unfold f_X9_isWithin
      rw [if_neg (nI_pos (by omega))]
      have e2 : nI L - 1 < nI q := by
        by_cases g0 : L = 0
        · subst g0
          exact Int32.lt_of_lt_of_le (b := 0) (by decide) (nI_pos' (by omega))
        · rw [l_1, pk_sub (by omega)]
          exact nI_lt (by omega) (by omega)
      rw [if_pos e2]
    rw [e, if_pos rfl, if_neg g]; rfl
/-- the end of a token, class -/
def tx_cE (v1 v2 : Int32) (M : Mem) : Mem := if v2 ≠ 0 ∧ M 16 3 = v1 then bw_up M 16 2 4 else if M 16 2 = 2 ∧ ¬ M 16 4 - M 16 3 ≤ 4 then bw_up M 16 2 4 else M
theorem tx_ad0 {M : Mem} {v1 v2 : Int32} {fu : Nat} (h : ¬ M 16 2 = 2) : f_X7_advance_L128 v1 v2 0 (fu + 1) M = some M := by
  rw [f_X7_advance_L128, if_pos rfl, if_pos rfl, if_pos rfl, if_neg h]
theorem tx_ad1 {M : Mem} {v1 v2 : Int32} {fu : Nat} (h : M 16 1 ≤ M 16 4 ∨ (¬ M 16 1 ≤ M 16 4 ∧ ∃ q, f_X7_sortAt M (M 16 4) = some q ∧ ¬ q = M 16 2)) : f_X7_advance_L128 v1 v2 1 (fu + 1) M = some (tx_cE v1 v2 M) := by
  have n1 : ¬ (1 : Int32) = 0 := by decide
  rw [f_X7_advance_L128, if_neg n1]
  unfold tx_cE
  rcases h with h | ⟨h, q, hq, hn⟩
  · rw [if_pos h, if_neg n1]
    by_cases a : v2 = 0
    · rw [if_pos a, if_pos rfl, if_neg (show ¬ (v2 ≠ 0 ∧ M 16 3 = v1) from fun h => h.1 a)]
      by_cases c : M 16 2 = 2
      · rw [if_pos c]
        by_cases d : M 16 4 - M 16 3 ≤ 4
        · rw [if_pos d, if_neg (show ¬ (M 16 2 = 2 ∧ ¬ M 16 4 - M 16 3 ≤ 4) from fun h => h.2 d)]
        · rw [if_neg d, if_pos ⟨c, d⟩, z_ml]
      · rw [if_neg c, if_neg (show ¬ (M 16 2 = 2 ∧ ¬ M 16 4 - M 16 3 ≤ 4) from fun h => c h.1)]
    · rw [if_neg a]
      by_cases e : M 16 3 = v1
      · rw [if_pos e, if_neg n1, if_pos ⟨a, e⟩, z_ml]
      · rw [if_neg e, if_pos rfl, if_neg (show ¬ (v2 ≠ 0 ∧ M 16 3 = v1) from fun h => e h.2)]
        by_cases c : M 16 2 = 2
        · rw [if_pos c]
          by_cases d : M 16 4 - M 16 3 ≤ 4
          · rw [if_pos d, if_neg (show ¬ (M 16 2 = 2 ∧ ¬ M 16 4 - M 16 3 ≤ 4) from fun h => h.2 d)]
          · rw [if_neg d, if_pos ⟨c, d⟩, z_ml]
        · rw [if_neg c, if_neg (show ¬ (M 16 2 = 2 ∧ ¬ M 16 4 - M 16 3 ≤ 4) from fun h => c h.1)]
  · rw [if_neg h, hq, Option.bind_some, if_neg hn, if_neg n1]
    by_cases a : v2 = 0
    · rw [if_pos a, if_pos rfl, if_neg (show ¬ (v2 ≠ 0 ∧ M 16 3 = v1) from fun h => h.1 a)]
      by_cases c : M 16 2 = 2
      · rw [if_pos c]
        by_cases d : M 16 4 - M 16 3 ≤ 4
        · rw [if_pos d, if_neg (show ¬ (M 16 2 = 2 ∧ ¬ M 16 4 - M 16 3 ≤ 4) from fun h => h.2 d)]
        · rw [if_neg d, if_pos ⟨c, d⟩, z_ml]
      · rw [if_neg c, if_neg (show ¬ (M 16 2 = 2 ∧ ¬ M 16 4 - M 16 3 ≤ 4) from fun h => c h.1)]
    · rw [if_neg a]
      by_cases e : M 16 3 = v1
      · rw [if_pos e, if_neg n1, if_pos ⟨a, e⟩, z_ml]
      · rw [if_neg e, if_pos rfl, if_neg (show ¬ (v2 ≠ 0 ∧ M 16 3 = v1) from fun h => e h.2)]
        by_cases c : M 16 2 = 2
        · rw [if_pos c]
          by_cases d : M 16 4 - M 16 3 ≤ 4
          · rw [if_pos d, if_neg (show ¬ (M 16 2 = 2 ∧ ¬ M 16 4 - M 16 3 ≤ 4) from fun h => h.2 d)]
          · rw [if_neg d, if_pos ⟨c, d⟩, z_ml]
        · rw [if_neg c, if_neg (show ¬ (M 16 2 = 2 ∧ ¬ M 16 4 - M 16 3 ≤ 4) from fun h => c h.1)]
theorem tx_ad2 {M : Mem} {v1 v2 : Int32} {fu : Nat} (h : ¬ M 16 1 ≤ M 16 4) (hq : f_X7_sortAt M (M 16 4) = some (M 16 2)) : f_X7_advance_L128 v1 v2 1 (fu + 1) M = f_X7_advance_L128 v1 v2 1 fu (bw_up M 16 4 (M 16 4 + 1)) := by
  rw [f_X7_advance_L128, if_neg (by decide), if_neg h, hq, Option.bind_some, if_pos rfl, z_ml]
theorem tx_adL {b : Nat → Nat} {L k : Nat} {v1 v2 : Int32} (hL : L ≤ 96) (hb : ∀ i, i < L → b i < 256) (hk : k ≤ 3) : ∀ r q fu (M : Mem), q + r = L → r < fu → M 16 4 = nI q → M 16 2 = nI k → tx_cT b L M → f_X7_advance_L128 v1 v2 1 fu M = some (tx_cE v1 v2 (bw_up M 16 4 (nI (tx_ru b L k r q)))) := by
  intro r
  induction r with
  | zero =>
    intro q fu M hq hf h4 h2 hT
    obtain ⟨f, rfl⟩ : ∃ f, fu = f + 1 := ⟨fu - 1, by omega⟩
    have e : bw_up M 16 4 (nI (tx_ru b L k 0 q)) = M := by
      exact tx_ue h4
    rw [e]
    exact tx_ad1 (Or.inl (by rw [hT.1, h4]; exact nI_le (by omega) (by omega)))
  | succ r ih =>
    intro q fu M hq hf h4 h2 hT
    obtain ⟨f, rfl⟩ : ∃ f, fu = f + 1 := ⟨fu - 1, by omega⟩
    have hs := tx_sA hL hb hT (q := q) (by omega)
    have hk3 := tx_kd3 b L q
    have hn : ¬ M 16 1 ≤ M 16 4 := by rw [hT.1, h4]; exact nI_ge (by omega) (by omega)
    simp only [tx_ru]
    by_cases g : tx_kd b L q = k
    · rw [if_pos g, tx_ad2 hn (by rw [h4, hs, g, h2]), h4, nI_1, ih (q + 1) f _ (by omega) (by omega) (z_up_s _ _ _ _) (by rw [z_up_i _ _ _ _ (by omega)]; exact h2) ⟨by rw [z_up_i _ _ _ _ (by omega)]; exact hT.1, fun i hi => by rw [z_up_k _ _ _ _ (by omega)]; exact hT.2 i hi⟩]
      rw [tx_uu]
    · rw [if_neg g]
      have e : bw_up M 16 4 (nI q) = M := tx_ue h4
      rw [e]
      exact tx_ad1 (Or.inr ⟨hn, _, by rw [h4]; exact hs, by rw [h2]; exact z_neI g (by omega) (by omega)⟩)
theorem tx_ad3 {M : Mem} {v1 v2 : Int32} {fu k : Nat} (hk : k ≤ 3) (h : M 16 1 ≤ M 16 3 ∨ (¬ M 16 1 ≤ M 16 3 ∧ bw_ib (M 16 3) 96 = true ∧ ¬ M 17 (M 16 3).toNatClampNeg = 32)) (hs : f_X7_sortAt M (M 16 3) = some (nI k)) : f_X7_advance_L32 v1 v2 (fu + 1) M = f_X7_advance_L128 v1 v2 (if k = 1 ∨ k = 2 then 1 else 0) bw_fu (bw_up (bw_up M 16 2 (nI k)) 16 4 (if k = 0 then M 16 3 else M 16 3 + 1)) := by
  have e2 : bw_up M 16 2 (nI k) 16 2 = nI k := z_up_s _ _ _ _
  have e3 : bw_up M 16 2 (nI k) 16 3 = M 16 3 := z_up_i _ _ _ _ (by omega)
  have key : (if nI k = (1 : Int32) then (if nI k = 0 then f_X7_advance_L128 v1 v2 (1 : Int32) bw_fu (bw_up (bw_up M 16 2 (nI k)) 16 4 (M 16 3)) else f_X7_advance_L128 v1 v2 (1 : Int32) bw_fu (bw_up (bw_up M 16 2 (nI k)) 16 4 (M 16 3 + 1))) else (if nI k = (2 : Int32) then (if nI k = 0 then f_X7_advance_L128 v1 v2 (1 : Int32) bw_fu (bw_up (bw_up M 16 2 (nI k)) 16 4 (M 16 3)) else f_X7_advance_L128 v1 v2 (1 : Int32) bw_fu (bw_up (bw_up M 16 2 (nI k)) 16 4 (M 16 3 + 1))) else (if nI k = 0 then f_X7_advance_L128 v1 v2 (0 : Int32) bw_fu (bw_up (bw_up M 16 2 (nI k)) 16 4 (M 16 3)) else f_X7_advance_L128 v1 v2 (0 : Int32) bw_fu (bw_up (bw_up M 16 2 (nI k)) 16 4 (M 16 3 + 1))))) = f_X7_advance_L128 v1 v2 (if k = 1 ∨ k = 2 then 1 else 0) bw_fu (bw_up (bw_up M 16 2 (nI k)) 16 4 (if k = 0 then M 16 3 else M 16 3 + 1)) := by
    obtain rfl | rfl | rfl | rfl : k = 0 ∨ k = 1 ∨ k = 2 ∨ k = 3 := by omega
    · rw [if_neg (by decide), if_neg (by decide), if_pos (by decide), if_neg (by decide), if_pos rfl]
    · rw [if_pos (by decide), if_neg (by decide), if_pos (by decide), if_neg (by decide)]
    · rw [if_neg (by decide), if_pos (by decide), if_neg (by decide), if_pos (by decide), if_neg (by decide)]
    · rw [if_neg (by decide), if_neg (by decide), if_neg (by decide), if_neg (by decide), if_neg (by decide)]
  rw [f_X7_advance_L32]
  rcases h with h | ⟨h, hi, hn⟩
  · rw [if_pos h, hs, Option.bind_some]
    simp only [z_ml, e2, e3]
    exact key
  · rw [if_neg h, hi, if_pos rfl, if_neg hn, hs, Option.bind_some]
    simp only [z_ml, e2, e3]
    exact key
theorem tx_ad4 {M : Mem} {v1 v2 : Int32} {fu : Nat} (h : ¬ M 16 1 ≤ M 16 3) (hi : bw_ib (M 16 3) 96 = true) (hn : M 17 (M 16 3).toNatClampNeg = 32) : f_X7_advance_L32 v1 v2 (fu + 1) M = f_X7_advance_L32 v1 v2 fu (bw_up M 16 3 (M 16 3 + 1)) := by
  rw [f_X7_advance_L32, if_neg h, hi, if_pos rfl, if_pos hn, z_ml]
def tx_cF (v1 v2 : Int32) (k s : Nat) (M : Mem) : Option Mem := f_X7_advance_L128 v1 v2 (if k = 1 ∨ k = 2 then 1 else 0) bw_fu (bw_up (bw_up (bw_up M 16 3 (nI s)) 16 2 (nI k)) 16 4 (if k = 0 then nI s else nI (s + 1)))
theorem tx_adS {b : Nat → Nat} {L : Nat} {v1 v2 : Int32} (hL : L ≤ 96) (hb : ∀ i, i < L → b i < 256) : ∀ r q fu (M : Mem), q + r = L → r < fu → M 16 3 = nI q → tx_cT b L M → f_X7_advance_L32 v1 v2 fu M = tx_cF v1 v2 (tx_kd b L (tx_sk b r q)) (tx_sk b r q) M := by
  intro r
  induction r with
  | zero =>
    intro q fu M hq hf h3 hT
    obtain ⟨f, rfl⟩ : ∃ f, fu = f + 1 := ⟨fu - 1, by omega⟩
    simp only [tx_sk]
    unfold tx_cF
    have e3 := tx_ad3 (v1 := v1) (v2 := v2) (fu := f) (M := M) (k := tx_kd b L q) (tx_kd3 _ _ _) (Or.inl (by rw [hT.1, h3]; exact nI_le (by omega) (by omega))) (by rw [h3]; exact tx_sA hL hb hT (by omega))
    rw [h3, nI_1] at e3
    rw [tx_ue h3]
    exact e3
  | succ r ih =>
    intro q fu M hq hf h3 hT
    obtain ⟨f, rfl⟩ : ∃ f, fu = f + 1 := ⟨fu - 1, by omega⟩
    have hn : ¬ M 16 1 ≤ M 16 3 := by rw [hT.1, h3]; exact nI_ge (by omega) (by omega)
    have hi : bw_ib (M 16 3) 96 = true := by rw [h3]; exact z_ib (by omega) (by omega)
    have hv : M 17 (M 16 3).toNatClampNeg = nI (b q) := by rw [h3, nI_clamp (by omega)]; exact hT.2 q (by omega)
    have hbq := hb q (by omega)
    simp only [tx_sk]
    by_cases g : b q = 32
    · rw [if_pos g, tx_ad4 hn hi (by rw [hv, g]; rfl), h3, nI_1, ih (q + 1) f _ (by omega) (by omega) (z_up_s _ _ _ _) ⟨by rw [z_up_i _ _ _ _ (by omega)]; exact hT.1, fun i hi => by rw [z_up_k _ _ _ _ (by omega)]; exact hT.2 i hi⟩]
      unfold tx_cF
      rw [tx_uu]
    · rw [if_neg g]
      have e3 := tx_ad3 (v1 := v1) (v2 := v2) (fu := f) (M := M) (k := tx_kd b L q) (tx_kd3 _ _ _) (Or.inr ⟨hn, hi, by rw [hv]; exact z_neI (b := 32) g (by omega) (by omega)⟩) (by rw [h3]; exact tx_sA hL hb hT (by omega))
      rw [h3, nI_1] at e3
      unfold tx_cF
      rw [tx_ue h3]
      exact e3
theorem tx_cEF {M : Mem} {v2 : Int32} {p s e k k0 : Nat} (h2 : M 16 2 = nI k) (h3 : M 16 3 = nI s) (h4 : M 16 4 = nI e) (hse : s ≤ e) (he : e ≤ 96) (hp : p ≤ 96) (hk : k ≤ 3) (hv : v2 ≠ 0 ↔ (k0 = 1 ∨ k0 = 2)) : tx_cE (nI p) v2 M 16 2 = nI (if (k0 = 1 ∨ k0 = 2) ∧ s = p then 4 else if k = 2 ∧ 4 < e - s then 4 else k) ∧ tx_cE (nI p) v2 M 16 3 = nI s ∧ tx_cE (nI p) v2 M 16 4 = nI e ∧ tx_cE (nI p) v2 M 16 1 = M 16 1 ∧ ∀ x, x ≠ 16 → tx_cE (nI p) v2 M x = M x := by
  unfold tx_cE
  by_cases g : (k0 = 1 ∨ k0 = 2) ∧ s = p
  · rw [if_pos g, if_pos ⟨hv.mpr g.1, by rw [h3, g.2]⟩]
    exact ⟨z_up_s _ _ _ _, by rw [z_up_i _ _ _ _ (by omega)]; exact h3, by rw [z_up_i _ _ _ _ (by omega)]; exact h4, z_up_i _ _ _ _ (by omega), fun x hx => z_up_k _ _ _ _ hx⟩
  · have g' : ¬ (v2 ≠ 0 ∧ M 16 3 = nI p) := fun h => g ⟨hv.mp h.1, (nI_eq (by omega) (by omega)).mp (h3.symm.trans h.2)⟩
    rw [if_neg g, if_neg g']
    by_cases c : k = 2 ∧ 4 < e - s
    · have c' : M 16 2 = 2 ∧ ¬ M 16 4 - M 16 3 ≤ 4 := ⟨by rw [h2, c.1]; rfl, by rw [h3, h4, pk_sub hse]; exact nI_ge (a := 4) (by omega) (by omega)⟩
      rw [if_pos c, if_pos c']
      exact ⟨z_up_s _ _ _ _, by rw [z_up_i _ _ _ _ (by omega)]; exact h3, by rw [z_up_i _ _ _ _ (by omega)]; exact h4, z_up_i _ _ _ _ (by omega), fun x hx => z_up_k _ _ _ _ hx⟩
    · have c' : ¬ (M 16 2 = 2 ∧ ¬ M 16 4 - M 16 3 ≤ 4) := by
        intro h
        refine c ⟨(nI_eq (b := 2) (by omega) (by omega)).mp (h2.symm.trans h.1), ?_⟩
        refine Nat.lt_of_not_le (fun q => h.2 ?_)
        rw [h3, h4, pk_sub hse]
        exact nI_le (b := 4) q (by omega)
      rw [if_neg c, if_neg c']
      exact ⟨h2, h3, h4, rfl, fun x _ => rfl⟩
theorem tx_adv {b : Nat → Nat} {L p k0 : Nat} {M : Mem} (hL : L ≤ 96) (hb : ∀ i, i < L → b i < 256) (hT : tx_cT b L M) (hp : p ≤ L) (h4 : M 16 4 = nI p) (hk0 : k0 ≤ 4) (h2 : M 16 2 = nI k0) : ∃ M', f_X7_advance M = some M' ∧ M' 16 2 = nI (tx_sc b L p k0).1 ∧ M' 16 3 = nI (tx_sc b L p k0).2.1 ∧ M' 16 4 = nI (tx_sc b L p k0).2.2 ∧ M' 16 1 = nI L ∧ ∀ x, x ≠ 16 → M' x = M x := by
  have hfu : bw_fu = 2000 := rfl
  have hv : (if M 16 2 = (1 : Int32) then (1 : Int32) else (if M 16 2 = (2 : Int32) then (1 : Int32) else (0 : Int32))) ≠ 0 ↔ (k0 = 1 ∨ k0 = 2) := by
    rw [h2]
    by_cases a1 : k0 = 1
    · subst a1; rw [if_pos (by decide)]; exact ⟨fun _ => Or.inl rfl, fun _ => by decide⟩
    · rw [if_neg (show ¬ nI k0 = (1 : Int32) from z_neI (b := 1) a1 (by omega) (by omega))]
      by_cases a2 : k0 = 2
      · subst a2; rw [if_pos (by decide)]; exact ⟨fun _ => Or.inr rfl, fun _ => by decide⟩
      · rw [if_neg (show ¬ nI k0 = (2 : Int32) from z_neI (b := 2) a2 (by omega) (by omega))]
        exact ⟨fun h => absurd rfl h, fun h => by omega⟩
  unfold f_X7_advance f_X7_advance_J26
  generalize (if M 16 2 = (1 : Int32) then (1 : Int32) else (if M 16 2 = (2 : Int32) then (1 : Int32) else (0 : Int32))) = v2 at hv ⊢
  rw [z_ml, h4, tx_adS hL hb (L - p) p bw_fu (bw_up M 16 3 (nI p)) (by omega) (by omega) (z_up_s _ _ _ _) ⟨by rw [z_up_i _ _ _ _ (by omega)]; exact hT.1, fun i hi => by rw [z_up_k _ _ _ _ (by omega)]; exact hT.2 i hi⟩]
  unfold tx_cF
  rw [tx_uu]
  have hsB := tx_skB b (L - p) p
  unfold tx_sc tx_so
  dsimp only
  generalize hs : tx_sk b (L - p) p = s at hsB ⊢
  have hk3 := tx_kd3 b L s
  have hE := tx_eB (b := b) (L := L) (s := s) (by omega)
  by_cases hw : tx_kd b L s = 1 ∨ tx_kd b L s = 2
  · have hsL : s < L := tx_kdL (b := b) (by omega)
    have ee : tx_e b L s = tx_ru b L (tx_kd b L s) (L - (s + 1)) (s + 1) := by
      unfold tx_e
      rw [if_neg (by omega), if_neg (by omega), tx_ru1 hsL rfl]
    rw [if_pos hw, if_neg (show ¬ tx_kd b L s = 0 by omega), tx_adL hL hb hk3 (L - (s + 1)) (s + 1) bw_fu _ (by omega) (by omega) (z_up_s _ _ _ _) (by rw [z_up_i _ _ _ _ (by omega)]; exact z_up_s _ _ _ _) ⟨by rw [z_up_i _ _ _ _ (by omega), z_up_i _ _ _ _ (by omega), z_up_i _ _ _ _ (by omega)]; exact hT.1, fun i hi => by rw [z_up_k _ _ _ _ (by omega), z_up_k _ _ _ _ (by omega), z_up_k _ _ _ _ (by omega)]; exact hT.2 i hi⟩, tx_uu, ← ee]
    obtain ⟨f1, f2, f3, f4, f5⟩ := tx_cEF (M := bw_up (bw_up (bw_up M 16 3 (nI s)) 16 2 (nI (tx_kd b L s))) 16 4 (nI (tx_e b L s))) (v2 := v2) (p := p) (s := s) (e := tx_e b L s) (k := tx_kd b L s) (k0 := k0) (by rw [z_up_i _ _ _ _ (by omega)]; exact z_up_s _ _ _ _) (by rw [z_up_i _ _ _ _ (by omega), z_up_i _ _ _ _ (by omega)]; exact z_up_s _ _ _ _) (z_up_s _ _ _ _) hE.1 (by omega) (by omega) hk3 hv
    refine ⟨_, rfl, ?_, f2, f3, ?_, ?_⟩
    · rw [f1]
      congr 1
      simp only [hw, true_and]
    · rw [f4, z_up_i _ _ _ _ (by omega), z_up_i _ _ _ _ (by omega), z_up_i _ _ _ _ (by omega)]; exact hT.1
    · intro x hx
      rw [f5 x hx, z_up_k _ _ _ _ hx, z_up_k _ _ _ _ hx, z_up_k _ _ _ _ hx]
  · obtain ⟨f, hf⟩ : ∃ f, bw_fu = f + 1 := ⟨1999, rfl⟩
    rw [if_neg hw, hf, tx_ad0 (by rw [z_up_i _ _ _ _ (by omega), z_up_s]; exact z_neI (b := 2) (by omega) (by omega) (by omega))]
    have ee : (if tx_kd b L s = 0 then nI s else nI (s + 1)) = nI (tx_e b L s) := by
      unfold tx_e
      by_cases g : tx_kd b L s = 0
      · rw [if_pos g, if_pos g]
      · rw [if_neg g, if_neg g, if_pos (by omega)]
    rw [ee]
    refine ⟨_, rfl, ?_, ?_, z_up_s _ _ _ _, ?_, ?_⟩
    · rw [z_up_i _ _ _ _ (by omega), z_up_s, if_neg (show ¬ ((tx_kd b L s = 1 ∨ tx_kd b L s = 2) ∧ (k0 = 1 ∨ k0 = 2) ∧ s = p) from fun h => hw h.1), if_neg (show ¬ (tx_kd b L s = 2 ∧ 4 < tx_e b L s - s) from fun h => hw (Or.inr h.1))]
    · rw [z_up_i _ _ _ _ (by omega), z_up_i _ _ _ _ (by omega), z_up_s]
    · rw [z_up_i _ _ _ _ (by omega), z_up_i _ _ _ _ (by omega), z_up_i _ _ _ _ (by omega)]; exact hT.1
    · intro x hx
      rw [z_up_k _ _ _ _ hx, z_up_k _ _ _ _ hx, z_up_k _ _ _ _ hx]
