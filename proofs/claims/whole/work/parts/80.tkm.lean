/-! level 2: text, the model's way over the tokens -/
def tx_mT (b : Nat → Nat) (L : Nat) (M : Mem) : Prop := M 93 26 = nI L ∧ ∀ i, i < L → M 110 i = nI (b i)
def tx_cl (L p k0 : Nat) (M : Mem) : Prop := ∀ s, p ≤ s → s ≤ L → (M 93 31 = nI s ↔ ((k0 = 1 ∨ k0 = 2) ∧ s = p))
def tx_nu (b : Nat → Nat) : Nat → Nat → Nat → Nat
  | 0, _, v => v
  | r + 1, p, v => tx_nu b r (p + 1) (10 * v + (b p - 48))
theorem tx_isL {b : Nat → Nat} {L q : Nat} {M : Mem} (hL : L ≤ 96) (hb : ∀ i, i < L → b i < 256) (h : tx_mT b L M) (hq : q ≤ 96) : f_X10_isLetter M (nI q) = some (if tx_kd b L q = 1 then 1 else 0) := by
  obtain ⟨h1, h2⟩ := h
  unfold f_X10_isLetter tx_kd
  rw [h1]
  by_cases g : q < L
  · have hbq := hb q g
    rw [if_neg (nI_ge g (by omega)), z_ib (by omega) (by omega), if_pos rfl, nI_clamp (by omega), h2 q g, if_pos g]
    by_cases a1 : b q < 97
    · rw [l_97, if_pos (nI_lt a1 (by omega)), if_neg (show ¬ (97 ≤ b q ∧ b q ≤ 122) by omega)]
      by_cases a2 : 48 ≤ b q ∧ b q ≤ 57
      · rw [if_pos a2, if_neg (by decide)]
      · rw [if_neg a2, if_neg (by decide)]
    · rw [l_97, if_neg (nI_nlt (by omega) (by omega))]
      by_cases a4 : 122 < b q
      · rw [l_122, if_pos (nI_lt a4 (by omega)), if_neg (show ¬ (97 ≤ b q ∧ b q ≤ 122) by omega), if_neg (show ¬ (48 ≤ b q ∧ b q ≤ 57) by omega), if_neg (by decide)]
      · rw [l_122, if_neg (nI_nlt (by omega) (by omega)), if_pos (show 97 ≤ b q ∧ b q ≤ 122 by omega), if_pos rfl]
  · rw [if_pos (nI_le (by omega) (by omega)), if_neg g, if_neg (by decide)]
theorem tx_isF {b : Nat → Nat} {L q : Nat} {M : Mem} (hL : L ≤ 96) (hb : ∀ i, i < L → b i < 256) (h : tx_mT b L M) (hq : q ≤ 96) : f_X10_isFigure M (nI q) = some (if tx_kd b L q = 2 then 1 else 0) := by
  obtain ⟨h1, h2⟩ := h
  unfold f_X10_isFigure tx_kd
  rw [h1]
  by_cases g : q < L
  · have hbq := hb q g
    rw [if_neg (nI_ge g (by omega)), z_ib (by omega) (by omega), if_pos rfl, nI_clamp (by omega), h2 q g, if_pos g]
    by_cases a1 : b q < 48
    · rw [l_48, if_pos (nI_lt a1 (by omega)), if_neg (show ¬ (97 ≤ b q ∧ b q ≤ 122) by omega), if_neg (show ¬ (48 ≤ b q ∧ b q ≤ 57) by omega), if_neg (by decide)]
    · rw [l_48, if_neg (nI_nlt (by omega) (by omega))]
      by_cases a4 : 57 < b q
      · rw [l_57, if_pos (nI_lt a4 (by omega))]
        by_cases a2 : 97 ≤ b q ∧ b q ≤ 122
        · rw [if_pos a2, if_neg (by decide)]
        · rw [if_neg a2, if_neg (show ¬ (48 ≤ b q ∧ b q ≤ 57) by omega), if_neg (by decide)]
      · rw [l_57, if_neg (nI_nlt (by omega) (by omega)), if_neg (show ¬ (97 ≤ b q ∧ b q ≤ 122) by omega), if_pos (show 48 ≤ b q ∧ b q ≤ 57 by omega), if_pos rfl]
  · rw [if_pos (nI_le (by omega) (by omega)), if_neg g, if_neg (by decide)]
/-- what a step of the scan leaves -/
def tx_mO (M M' : Mem) : Prop := (∀ x, x ≠ 93 → M' x = M x) ∧ ∀ j, j < 27 ∨ 31 < j → M' 93 j = M 93 j
theorem tx_mO_r (M : Mem) : tx_mO M M := ⟨fun _ _ => rfl, fun _ _ => rfl⟩
theorem tx_mO_t {M1 M2 M3 : Mem} (h : tx_mO M1 M2) (g : tx_mO M2 M3) : tx_mO M1 M3 := ⟨fun x hx => (g.1 x hx).trans (h.1 x hx), fun j hj => (g.2 j hj).trans (h.2 j hj)⟩
theorem tx_mO_u {M : Mem} {i : Nat} {x : Int32} (h : 27 ≤ i ∧ i ≤ 31) : tx_mO M (bw_up M 93 i x) := ⟨fun _ hy => z_up_k _ _ _ _ hy, fun j hj => z_up_i _ _ _ _ (by omega)⟩
theorem tx_mT_o {b : Nat → Nat} {L : Nat} {M M' : Mem} (h : tx_mT b L M) (g : tx_mO M M') : tx_mT b L M' := ⟨by rw [g.2 26 (by omega)]; exact h.1, fun i hi => by rw [g.1 110 (by omega)]; exact h.2 i hi⟩
theorem tx_gL {b : Nat → Nat} {L s : Nat} {v1 : Int32} (hL : L ≤ 96) (hb : ∀ i, i < L → b i < 256) (hs : s < L) : ∀ r q fu (M : Mem), q + r = L → r < fu → M 93 27 = nI q → M 93 28 = nI s → tx_mT b L M → ∃ M', f_X10_go_L93 v1 fu M = some M' ∧ M' 93 27 = nI (tx_ru b L 1 r q) ∧ M' 93 28 = nI s ∧ M' 93 29 = (if v1 = 0 then 1 else 4) ∧ M' 93 30 = nI (b s) ∧ M' 93 31 = nI (tx_ru b L 1 r q) ∧ tx_mO M M' := by
  have stop : ∀ q f (M : Mem), q ≤ 96 → ¬ tx_kd b L q = 1 → M 93 27 = nI q → M 93 28 = nI s → tx_mT b L M → ∃ M', f_X10_go_L93 v1 (f + 1) M = some M' ∧ M' 93 27 = nI q ∧ M' 93 28 = nI s ∧ M' 93 29 = (if v1 = 0 then 1 else 4) ∧ M' 93 30 = nI (b s) ∧ M' 93 31 = nI q ∧ tx_mO M M' := by
    intro q f M hq hk h7 h8 hT
    rw [f_X10_go_L93, h7, tx_isL hL hb hT hq, Option.bind_some, if_neg hk, if_pos rfl]
    have e8 : ∀ x : Int32, bw_up M 93 29 x 93 28 = nI s := fun x => by rw [z_up_i _ _ _ _ (by omega)]; exact h8
    have e110 : ∀ x : Int32, bw_up M 93 29 x 110 s = nI (b s) := fun x => by rw [z_up_k _ _ _ _ (by omega)]; exact hT.2 s hs
    have e7 : ∀ x y : Int32, bw_up (bw_up M 93 29 x) 93 30 y 93 27 = nI q := fun x y => by rw [z_up_i _ _ _ _ (by omega), z_up_i _ _ _ _ (by omega)]; exact h7
    have fin : ∀ x : Int32, bw_up (bw_up (bw_up M 93 29 x) 93 30 (nI (b s))) 93 31 (nI q) 93 27 = nI q ∧ bw_up (bw_up (bw_up M 93 29 x) 93 30 (nI (b s))) 93 31 (nI q) 93 28 = nI s ∧ bw_up (bw_up (bw_up M 93 29 x) 93 30 (nI (b s))) 93 31 (nI q) 93 29 = x ∧ bw_up (bw_up (bw_up M 93 29 x) 93 30 (nI (b s))) 93 31 (nI q) 93 30 = nI (b s) ∧ bw_up (bw_up (bw_up M 93 29 x) 93 30 (nI (b s))) 93 31 (nI q) 93 31 = nI q ∧ tx_mO M (bw_up (bw_up (bw_up M 93 29 x) 93 30 (nI (b s))) 93 31 (nI q)) := fun x =>
      ⟨by rw [z_up_i _ _ _ _ (by omega)]; exact e7 _ _, by rw [z_up_i _ _ _ _ (by omega), z_up_i _ _ _ _ (by omega)]; exact e8 _, by rw [z_up_i _ _ _ _ (by omega), z_up_i _ _ _ _ (by omega)]; exact z_up_s _ _ _ _, by rw [z_up_i _ _ _ _ (by omega)]; exact z_up_s _ _ _ _, z_up_s _ _ _ _, tx_mO_t (tx_mO_t (tx_mO_u (by omega)) (tx_mO_u (by omega))) (tx_mO_u (by omega))⟩
    by_cases g : v1 = 0
    · rw [if_pos g, if_pos g]
      simp only [z_ml, e8, nI_clamp (show s < 2 ^ 31 by omega), e110, e7]
      rw [z_ib (by omega) (by omega), if_pos rfl]
      exact ⟨_, rfl, fin _⟩
    · rw [if_neg g, if_neg g]
      simp only [z_ml, e8, nI_clamp (show s < 2 ^ 31 by omega), e110, e7]
      rw [z_ib (by omega) (by omega), if_pos rfl]
      exact ⟨_, rfl, fin _⟩
  intro r
  induction r with
  | zero =>
    intro q fu M hq hf h7 h8 hT
    obtain ⟨f, rfl⟩ : ∃ f, fu = f + 1 := ⟨fu - 1, by omega⟩
    exact stop q f M (by omega) (fun h => absurd (tx_kdL (b := b) (L := L) (q := q) (by omega)) (by omega)) h7 h8 hT
  | succ r ih =>
    intro q fu M hq hf h7 h8 hT
    obtain ⟨f, rfl⟩ : ∃ f, fu = f + 1 := ⟨fu - 1, by omega⟩
    simp only [tx_ru]
    by_cases g : tx_kd b L q = 1
    · rw [if_pos g]
      obtain ⟨M', e1, e2, e3, e4, e5, e6, e7⟩ := ih (q + 1) f (bw_up M 93 27 (nI (q + 1))) (by omega) (by omega) (z_up_s _ _ _ _) (by rw [z_up_i _ _ _ _ (by omega)]; exact h8) (tx_mT_o hT (tx_mO_u (by omega)))
      refine ⟨M', ?_, e2, e3, e4, e5, e6, tx_mO_t (tx_mO_u (by omega)) e7⟩
      rw [f_X10_go_L93, h7, tx_isL hL hb hT (by omega), Option.bind_some, if_pos g, if_neg (by decide), z_ml, nI_1]
      exact e1
    · rw [if_neg g]
      exact stop q f M (by omega) g h7 h8 hT
theorem tx_gF {b : Nat → Nat} {L s : Nat} {v1 : Int32} (hL : L ≤ 96) (hb : ∀ i, i < L → b i < 256) : ∀ r q fu (M : Mem) (v : Nat), s ≤ q → q + r = L → r < fu → M 93 27 = nI q → M 93 28 = nI s → (q - s ≤ 4 → M 93 30 = nI v) → tx_mT b L M → ∃ M', f_X10_go_L170 v1 fu M = some M' ∧ M' 93 27 = nI (tx_ru b L 2 r q) ∧ M' 93 28 = nI s ∧ M' 93 29 = (if v1 = 0 ∧ tx_ru b L 2 r q - s ≤ 4 then 2 else 4) ∧ (tx_ru b L 2 r q - s ≤ 4 → M' 93 30 = nI (tx_nu b (tx_ru b L 2 r q - q) q v)) ∧ M' 93 31 = nI (tx_ru b L 2 r q) ∧ tx_mO M M' := by
  have stop : ∀ q f (M : Mem) (v : Nat), s ≤ q → q ≤ 96 → ¬ tx_kd b L q = 2 → M 93 27 = nI q → M 93 28 = nI s → (q - s ≤ 4 → M 93 30 = nI v) → tx_mT b L M → ∃ M', f_X10_go_L170 v1 (f + 1) M = some M' ∧ M' 93 27 = nI q ∧ M' 93 28 = nI s ∧ M' 93 29 = (if v1 = 0 ∧ q - s ≤ 4 then 2 else 4) ∧ (q - s ≤ 4 → M' 93 30 = nI v) ∧ M' 93 31 = nI q ∧ tx_mO M M' := by
    intro q f M v hsq hq hk h7 h8 h0 hT
    rw [f_X10_go_L170, h7, tx_isF hL hb hT hq, Option.bind_some, if_neg hk, if_pos rfl]
    have fin : ∀ x : Int32, ∃ M', bw_ml (bw_up M 93 29 x) (fun M23 => bw_ml (bw_up M23 93 31 (M23 93 27)) fun M24 => some M24) = some M' ∧ M' 93 27 = nI q ∧ M' 93 28 = nI s ∧ M' 93 29 = x ∧ (q - s ≤ 4 → M' 93 30 = nI v) ∧ M' 93 31 = nI q ∧ tx_mO M M' := by
      intro x
      refine ⟨bw_up (bw_up M 93 29 x) 93 31 (nI q), ?_, ?_, ?_, ?_, ?_, z_up_s _ _ _ _, tx_mO_t (tx_mO_u (by omega)) (tx_mO_u (by omega))⟩
      · rw [z_ml, z_ml, z_up_i _ _ _ _ (show 27 ≠ 29 by omega), h7]
      · rw [z_up_i _ _ _ _ (by omega), z_up_i _ _ _ _ (by omega)]; exact h7
      · rw [z_up_i _ _ _ _ (by omega), z_up_i _ _ _ _ (by omega)]; exact h8
      · rw [z_up_i _ _ _ _ (by omega)]; exact z_up_s _ _ _ _
      · intro h; rw [z_up_i _ _ _ _ (by omega), z_up_i _ _ _ _ (by omega)]; exact h0 h
    by_cases g : v1 = 0
    · rw [if_pos g]
      by_cases c : q - s ≤ 4
      · rw [if_pos (show v1 = 0 ∧ q - s ≤ 4 from ⟨g, c⟩), h8, pk_sub hsq, if_pos (show nI (q - s) ≤ (4 : Int32) from nI_le (b := 4) c (by omega))]
        exact fin _
      · rw [if_neg (show ¬ (v1 = 0 ∧ q - s ≤ 4) from fun h => c h.2), h8, pk_sub hsq, if_neg (show ¬ nI (q - s) ≤ (4 : Int32) from nI_ge (a := 4) (by omega) (by omega))]
        exact fin _
    · rw [if_neg g, if_neg (show ¬ (v1 = 0 ∧ q - s ≤ 4) from fun h => g h.1)]
      exact fin _
  intro r
  induction r with
  | zero =>
    intro q fu M v hsq hq hf h7 h8 h0 hT
    obtain ⟨f, rfl⟩ : ∃ f, fu = f + 1 := ⟨fu - 1, by omega⟩
    have er : tx_ru b L 2 0 q = q := rfl
    rw [er]
    simp only [Nat.sub_self, tx_nu]
    exact stop q f M v hsq (by omega) (fun h => absurd (tx_kdL (b := b) (L := L) (q := q) (by omega)) (by omega)) h7 h8 h0 hT
  | succ r ih =>
    intro q fu M v hsq hq hf h7 h8 h0 hT
    obtain ⟨f, rfl⟩ : ∃ f, fu = f + 1 := ⟨fu - 1, by omega⟩
    by_cases g : tx_kd b L q = 2
    · have er : tx_ru b L 2 (r + 1) q = tx_ru b L 2 r (q + 1) := by simp only [tx_ru]; rw [if_pos g]
      rw [er]
      have hbq := hb q (by omega)
      have h48 : 48 ≤ b q := by
        unfold tx_kd at g
        rw [if_pos (show q < L by omega)] at g
        by_cases a1 : 97 ≤ b q ∧ b q ≤ 122
        · omega
        · rw [if_neg a1] at g
          by_cases a2 : 48 ≤ b q ∧ b q ≤ 57
          · omega
          · rw [if_neg a2] at g; omega
      have hru := tx_ruB b L 2 r (q + 1)
      by_cases c : 4 ≤ q - s
      · have hstep : f_X10_go_L170 v1 (f + 1) M = f_X10_go_L170 v1 f (bw_up M 93 27 (nI (q + 1))) := by
          rw [f_X10_go_L170, h7, tx_isF hL hb hT (by omega), Option.bind_some, if_pos g, if_neg (by decide), h8, pk_sub hsq, if_pos (show (4 : Int32) ≤ nI (q - s) from nI_le (a := 4) c (by omega)), z_ml, tx_ue rfl, z_ml, h7, nI_1]
        obtain ⟨M', e1, e2, e3, e4, e5, e6, e7⟩ := ih (q + 1) f (bw_up M 93 27 (nI (q + 1))) 0 (by omega) (by omega) (by omega) (z_up_s _ _ _ _) (by rw [z_up_i _ _ _ _ (by omega)]; exact h8) (fun h => by omega) (tx_mT_o hT (tx_mO_u (by omega)))
        rw [hstep]
        exact ⟨M', e1, e2, e3, e4, fun h => by omega, e6, tx_mO_t (tx_mO_u (by omega)) e7⟩
      · have hval : (10 : Int32) * M 93 30 + M 110 (nI q).toNatClampNeg - 48 = nI (10 * v + (b q - 48)) := by
          rw [h0 (by omega), nI_clamp (by omega), hT.2 q (by omega), l_10, l_48, pk_mul, nI_add, pk_sub (by omega)]
          congr 1
          omega
        have hstep : f_X10_go_L170 v1 (f + 1) M = f_X10_go_L170 v1 f (bw_up (bw_up M 93 30 (nI (10 * v + (b q - 48)))) 93 27 (nI (q + 1))) := by
          rw [f_X10_go_L170, h7, tx_isF hL hb hT (by omega), Option.bind_some, if_pos g, if_neg (by decide), h8, pk_sub hsq, if_neg (show ¬ (4 : Int32) ≤ nI (q - s) from nI_ge (b := 4) (by omega) (by omega)), z_ib (by omega) (by omega), if_pos rfl, z_ml, hval, z_ml, z_up_i _ _ _ _ (show 27 ≠ 30 by omega), h7, nI_1]
        obtain ⟨M', e1, e2, e3, e4, e5, e6, e7⟩ := ih (q + 1) f (bw_up (bw_up M 93 30 (nI (10 * v + (b q - 48)))) 93 27 (nI (q + 1))) (10 * v + (b q - 48)) (by omega) (by omega) (by omega) (z_up_s _ _ _ _) (by rw [z_up_i _ _ _ _ (by omega), z_up_i _ _ _ _ (by omega)]; exact h8) (fun h => by rw [z_up_i _ _ _ _ (by omega)]; exact z_up_s _ _ _ _) (tx_mT_o (tx_mT_o hT (tx_mO_u (by omega))) (tx_mO_u (by omega)))
        rw [hstep]
        refine ⟨M', e1, e2, e3, e4, fun h => ?_, e6, tx_mO_t (tx_mO_t (tx_mO_u (by omega)) (tx_mO_u (by omega))) e7⟩
        rw [e5 h, show tx_ru b L 2 r (q + 1) - q = (tx_ru b L 2 r (q + 1) - (q + 1)) + 1 by omega]
        rfl
    · have er : tx_ru b L 2 (r + 1) q = q := by simp only [tx_ru]; rw [if_neg g]
      rw [er]
      simp only [Nat.sub_self, tx_nu]
      exact stop q f M v hsq (by omega) g h7 h8 h0 hT
def tx_mG (cl : Int32) (M2 : Mem) : Option Mem := (if (M2 93 28) = (M2 93 26) then bw_ml (bw_up M2 93 29 (0 : Int32)) fun M59 => some M59 else (f_X10_isLetter M2 (M2 93 28)).bind fun q48 => (if q48 = 0 then (f_X10_isFigure M2 (M2 93 28)).bind fun q51 => (if q51 = 0 then bw_ml (bw_up M2 93 29 (3 : Int32)) fun M54 => if bw_ib (M54 93 28) 96 = true then bw_ml (bw_up M54 93 30 (M54 110 (M54 93 28).toNatClampNeg)) fun M56 => bw_ml (bw_up M56 93 27 ((M56 93 27) + (1 : Int32))) fun M57 => some M57 else none else bw_ml (bw_up M2 93 30 (0 : Int32)) fun M58 => f_X10_go_L170 cl bw_fu M58) else f_X10_go_L93 cl bw_fu M2))
theorem tx_go1 {M : Mem} {fu : Nat} (h : M 93 26 ≤ M 93 27 ∨ (¬ M 93 26 ≤ M 93 27 ∧ bw_ib (M 93 27) 96 = true ∧ ¬ M 110 (M 93 27).toNatClampNeg = 32)) : f_X10_go_L0 (fu + 1) M = tx_mG (if M 93 27 = M 93 31 then 1 else 0) (bw_up M 93 28 (M 93 27)) := by
  have e8 : bw_up M 93 28 (M 93 27) 93 28 = M 93 27 := z_up_s _ _ _ _
  have e1 : bw_up M 93 28 (M 93 27) 93 31 = M 93 31 := z_up_i _ _ _ _ (by omega)
  rw [f_X10_go_L0]
  rcases h with h | ⟨h, hi, hn⟩
  · rw [if_pos h, z_ml]
    by_cases g : M 93 27 = M 93 31
    · rw [if_pos (show bw_up M 93 28 (M 93 27) 93 28 = bw_up M 93 28 (M 93 27) 93 31 by rw [e8, e1]; exact g), if_pos g]
      rfl
    · rw [if_neg (show ¬ bw_up M 93 28 (M 93 27) 93 28 = bw_up M 93 28 (M 93 27) 93 31 by rw [e8, e1]; exact g), if_neg g]
      rfl
  · rw [if_neg h, hi, if_pos rfl, if_neg hn, z_ml]
    by_cases g : M 93 27 = M 93 31
    · rw [if_pos (show bw_up M 93 28 (M 93 27) 93 28 = bw_up M 93 28 (M 93 27) 93 31 by rw [e8, e1]; exact g), if_pos g]
      rfl
    · rw [if_neg (show ¬ bw_up M 93 28 (M 93 27) 93 28 = bw_up M 93 28 (M 93 27) 93 31 by rw [e8, e1]; exact g), if_neg g]
      rfl
theorem tx_go2 {M : Mem} {fu : Nat} (h : ¬ M 93 26 ≤ M 93 27) (hi : bw_ib (M 93 27) 96 = true) (hn : M 110 (M 93 27).toNatClampNeg = 32) : f_X10_go_L0 (fu + 1) M = f_X10_go_L0 fu (bw_up M 93 27 (M 93 27 + 1)) := by
  rw [f_X10_go_L0, if_neg h, hi, if_pos rfl, if_pos hn, z_ml]
theorem tx_goS {b : Nat → Nat} {L : Nat} (hL : L ≤ 96) (hb : ∀ i, i < L → b i < 256) : ∀ r q fu (M : Mem), q + r = L → r < fu → M 93 27 = nI q → tx_mT b L M → f_X10_go_L0 fu M = tx_mG (if nI (tx_sk b r q) = M 93 31 then 1 else 0) (bw_up (bw_up M 93 27 (nI (tx_sk b r q))) 93 28 (nI (tx_sk b r q))) := by
  intro r
  induction r with
  | zero =>
    intro q fu M hq hf h7 hT
    obtain ⟨f, rfl⟩ : ∃ f, fu = f + 1 := ⟨fu - 1, by omega⟩
    have er : tx_sk b 0 q = q := rfl
    have e1 := tx_go1 (M := M) (fu := f) (Or.inl (by rw [hT.1, h7]; exact nI_le (by omega) (by omega)))
    rw [er, tx_ue h7, e1, h7]
  | succ r ih =>
    intro q fu M hq hf h7 hT
    obtain ⟨f, rfl⟩ : ∃ f, fu = f + 1 := ⟨fu - 1, by omega⟩
    have hn : ¬ M 93 26 ≤ M 93 27 := by rw [hT.1, h7]; exact nI_ge (by omega) (by omega)
    have hi : bw_ib (M 93 27) 96 = true := by rw [h7]; exact z_ib (by omega) (by omega)
    have hv : M 110 (M 93 27).toNatClampNeg = nI (b q) := by rw [h7, nI_clamp (by omega)]; exact hT.2 q (by omega)
    have hbq := hb q (by omega)
    by_cases g : b q = 32
    · have er : tx_sk b (r + 1) q = tx_sk b r (q + 1) := by simp only [tx_sk]; rw [if_pos g]
      rw [er, tx_go2 hn hi (by rw [hv, g]; rfl), h7, nI_1, ih (q + 1) f _ (by omega) (by omega) (z_up_s _ _ _ _) (tx_mT_o hT (tx_mO_u (by omega))), tx_uu, z_up_i _ _ _ _ (show 31 ≠ 27 by omega)]
    · have er : tx_sk b (r + 1) q = q := by simp only [tx_sk]; rw [if_neg g]
      have e1 := tx_go1 (M := M) (fu := f) (Or.inr ⟨hn, hi, by rw [hv]; exact z_neI (b := 32) g (by omega) (by omega)⟩)
      rw [er, tx_ue h7, e1, h7]
theorem tx_go {b : Nat → Nat} {L p k0 : Nat} {M : Mem} (hL : L ≤ 96) (hb : ∀ i, i < L → b i < 256) (hT : tx_mT b L M) (hp : p ≤ L) (h7 : M 93 27 = nI p) (hc : tx_cl L p k0 M) : ∃ M', f_X10_go M = some M' ∧ M' 93 29 = nI (tx_sc b L p k0).1 ∧ M' 93 28 = nI (tx_sc b L p k0).2.1 ∧ M' 93 27 = nI (tx_sc b L p k0).2.2 ∧ ((tx_sc b L p k0).1 = 1 ∨ (tx_sc b L p k0).1 = 3 → M' 93 30 = nI (b (tx_sc b L p k0).2.1)) ∧ ((tx_sc b L p k0).1 = 2 → M' 93 30 = nI (tx_nu b ((tx_sc b L p k0).2.2 - (tx_sc b L p k0).2.1) (tx_sc b L p k0).2.1 0)) ∧ ((tx_sc b L p k0).1 ≠ 4 → (tx_sc b L p k0).1 ≠ 0 → tx_cl L (tx_sc b L p k0).2.2 (tx_sc b L p k0).1 M') ∧ tx_mO M M' := by
  have hfu : bw_fu = 2000 := rfl
  unfold f_X10_go
  rw [tx_goS hL hb (L - p) p bw_fu M (by omega) (by omega) h7 hT]
  have hsB := tx_skB b (L - p) p
  unfold tx_sc tx_so
  dsimp only
  generalize hs : tx_sk b (L - p) p = s at hsB ⊢
  have hk3 := tx_kd3 b L s
  have hE := tx_eB (b := b) (L := L) (s := s) (by omega)
  have hO : tx_mO M (bw_up (bw_up M 93 27 (nI s)) 93 28 (nI s)) := tx_mO_t (tx_mO_u (by omega)) (tx_mO_u (by omega))
  have e7 : bw_up (bw_up M 93 27 (nI s)) 93 28 (nI s) 93 27 = nI s := by rw [z_up_i _ _ _ _ (by omega)]; exact z_up_s _ _ _ _
  have e8 : bw_up (bw_up M 93 27 (nI s)) 93 28 (nI s) 93 28 = nI s := z_up_s _ _ _ _
  have e1 : bw_up (bw_up M 93 27 (nI s)) 93 28 (nI s) 93 31 = M 93 31 := by rw [z_up_i _ _ _ _ (by omega), z_up_i _ _ _ _ (by omega)]
  have hcs : M 93 31 = nI s ↔ ((k0 = 1 ∨ k0 = 2) ∧ s = p) := hc s (by omega) (by omega)
  have hcl : (if nI s = M 93 31 then (1 : Int32) else 0) = if (k0 = 1 ∨ k0 = 2) ∧ s = p then 1 else 0 := by
    by_cases g : (k0 = 1 ∨ k0 = 2) ∧ s = p
    · rw [if_pos g, if_pos (hcs.mpr g).symm]
    · rw [if_neg g, if_neg (fun h => g (hcs.mp h.symm))]
  rw [hcl]
  have hT2 := tx_mT_o hT hO
  generalize bw_up (bw_up M 93 27 (nI s)) 93 28 (nI s) = M2 at hO e7 e8 e1 hT2 ⊢
  unfold tx_mG
  rw [e8, hT2.1]
  by_cases c0 : s = L
  · have hk0 : tx_kd b L s = 0 := by unfold tx_kd; rw [if_neg (by omega)]
    have he : tx_e b L s = s := by unfold tx_e; rw [if_pos hk0]
    rw [if_pos (by rw [c0]), z_ml, hk0, he, if_neg (show ¬ (((0 : Nat) = 1 ∨ (0 : Nat) = 2) ∧ (k0 = 1 ∨ k0 = 2) ∧ s = p) by omega), if_neg (show ¬ ((0 : Nat) = 2 ∧ 4 < s - s) by omega)]
    refine ⟨_, rfl, z_up_s _ _ _ _, ?_, ?_, fun h => by omega, fun h => by omega, fun _ h => absurd rfl h, tx_mO_t hO (tx_mO_u (by omega))⟩
    · rw [z_up_i _ _ _ _ (by omega)]; exact e8
    · rw [z_up_i _ _ _ _ (by omega)]; exact e7
  · have hsL : s < L := by omega
    have hk0 : tx_kd b L s ≠ 0 := tx_kd0 hsL
    rw [if_neg (show ¬ nI s = nI L from z_neI c0 (by omega) (by omega)), tx_isL hL hb hT2 (by omega), Option.bind_some]
    by_cases k1 : tx_kd b L s = 1
    · have he : tx_e b L s = tx_ru b L 1 (L - s) s := by unfold tx_e; rw [k1, if_neg (by omega), if_neg (by omega)]
      rw [if_pos k1, if_neg (by decide)]
      obtain ⟨M', f1, f2, f3, f4, f5, f6, f7⟩ := tx_gL (v1 := if (k0 = 1 ∨ k0 = 2) ∧ s = p then 1 else 0) hL hb hsL (L - s) s bw_fu M2 (by omega) (by omega) e7 e8 hT2
      rw [← he] at f2 f6
      refine ⟨M', f1, ?_, f3, f2, fun _ => f5, ?_, ?_, tx_mO_t hO f7⟩
      · rw [f4, k1]
        by_cases g : (k0 = 1 ∨ k0 = 2) ∧ s = p
        · rw [if_pos g, if_neg (by decide), if_pos (show ((1 : Nat) = 1 ∨ (1 : Nat) = 2) ∧ (k0 = 1 ∨ k0 = 2) ∧ s = p from ⟨Or.inl rfl, g⟩)]; rfl
        · rw [if_neg g, if_pos rfl, if_neg (show ¬ (((1 : Nat) = 1 ∨ (1 : Nat) = 2) ∧ (k0 = 1 ∨ k0 = 2) ∧ s = p) from fun h => g h.2), if_neg (show ¬ ((1 : Nat) = 2 ∧ 4 < tx_e b L s - s) by omega)]; rfl
      · rw [k1]
        intro h
        exfalso
        by_cases g : (k0 = 1 ∨ k0 = 2) ∧ s = p
        · rw [if_pos (show ((1 : Nat) = 1 ∨ (1 : Nat) = 2) ∧ (k0 = 1 ∨ k0 = 2) ∧ s = p from ⟨Or.inl rfl, g⟩)] at h; omega
        · rw [if_neg (show ¬ (((1 : Nat) = 1 ∨ (1 : Nat) = 2) ∧ (k0 = 1 ∨ k0 = 2) ∧ s = p) from fun h => g h.2), if_neg (show ¬ ((1 : Nat) = 2 ∧ 4 < tx_e b L s - s) by omega)] at h; omega
      · rw [k1]
        intro h4 _ s' hs1 hs2
        by_cases g : (k0 = 1 ∨ k0 = 2) ∧ s = p
        · rw [if_pos (show ((1 : Nat) = 1 ∨ (1 : Nat) = 2) ∧ (k0 = 1 ∨ k0 = 2) ∧ s = p from ⟨Or.inl rfl, g⟩)] at h4; omega
        · rw [if_neg (show ¬ (((1 : Nat) = 1 ∨ (1 : Nat) = 2) ∧ (k0 = 1 ∨ k0 = 2) ∧ s = p) from fun h => g h.2), if_neg (show ¬ ((1 : Nat) = 2 ∧ 4 < tx_e b L s - s) by omega), f6]
          exact ⟨fun h => ⟨Or.inl rfl, ((nI_eq (by omega) (by omega)).mp h).symm⟩, fun h => by rw [h.2]⟩
    · rw [if_neg k1, if_pos rfl, tx_isF hL hb hT2 (by omega), Option.bind_some]
      by_cases k2 : tx_kd b L s = 2
      · have he : tx_e b L s = tx_ru b L 2 (L - s) s := by unfold tx_e; rw [k2, if_neg (by omega), if_neg (by omega)]
        rw [if_pos k2, if_neg (by decide), z_ml]
        obtain ⟨M', f1, f2, f3, f4, f5, f6, f7⟩ := tx_gF (v1 := if (k0 = 1 ∨ k0 = 2) ∧ s = p then 1 else 0) hL hb (L - s) s bw_fu (bw_up M2 93 30 0) 0 (Nat.le_refl _) (by omega) (by omega) (by rw [z_up_i _ _ _ _ (by omega)]; exact e7) (by rw [z_up_i _ _ _ _ (by omega)]; exact e8) (fun _ => z_up_s _ _ _ _) (tx_mT_o hT2 (tx_mO_u (by omega)))
        rw [← he] at f2 f4 f5 f6
        refine ⟨M', f1, ?_, f3, f2, ?_, ?_, ?_, tx_mO_t hO (tx_mO_t (tx_mO_u (by omega)) f7)⟩
        · rw [f4, k2]
          by_cases g : (k0 = 1 ∨ k0 = 2) ∧ s = p
          · rw [if_pos g, if_neg (show ¬ ((1 : Int32) = 0 ∧ tx_e b L s - s ≤ 4) from fun h => absurd h.1 (by decide)), if_pos (show ((2 : Nat) = 1 ∨ (2 : Nat) = 2) ∧ (k0 = 1 ∨ k0 = 2) ∧ s = p from ⟨Or.inr rfl, g⟩)]; rfl
          · rw [if_neg g, if_neg (show ¬ (((2 : Nat) = 1 ∨ (2 : Nat) = 2) ∧ (k0 = 1 ∨ k0 = 2) ∧ s = p) from fun h => g h.2)]
            by_cases c : 4 < tx_e b L s - s
            · rw [if_neg (show ¬ ((0 : Int32) = 0 ∧ tx_e b L s - s ≤ 4) by omega), if_pos (show (2 : Nat) = 2 ∧ 4 < tx_e b L s - s from ⟨rfl, c⟩)]; rfl
            · rw [if_pos (show (0 : Int32) = 0 ∧ tx_e b L s - s ≤ 4 from ⟨rfl, by omega⟩), if_neg (show ¬ ((2 : Nat) = 2 ∧ 4 < tx_e b L s - s) by omega)]; rfl
        · rw [k2]
          intro h
          exfalso
          by_cases g : (k0 = 1 ∨ k0 = 2) ∧ s = p
          · rw [if_pos (show ((2 : Nat) = 1 ∨ (2 : Nat) = 2) ∧ (k0 = 1 ∨ k0 = 2) ∧ s = p from ⟨Or.inr rfl, g⟩)] at h; omega
          · rw [if_neg (show ¬ (((2 : Nat) = 1 ∨ (2 : Nat) = 2) ∧ (k0 = 1 ∨ k0 = 2) ∧ s = p) from fun h => g h.2)] at h
            by_cases c : 4 < tx_e b L s - s
            · rw [if_pos (show (2 : Nat) = 2 ∧ 4 < tx_e b L s - s from ⟨rfl, c⟩)] at h; omega
            · rw [if_neg (show ¬ ((2 : Nat) = 2 ∧ 4 < tx_e b L s - s) by omega)] at h; omega
        · rw [k2]
          intro h
          by_cases g : (k0 = 1 ∨ k0 = 2) ∧ s = p
          · rw [if_pos (show ((2 : Nat) = 1 ∨ (2 : Nat) = 2) ∧ (k0 = 1 ∨ k0 = 2) ∧ s = p from ⟨Or.inr rfl, g⟩)] at h; omega
          · rw [if_neg (show ¬ (((2 : Nat) = 1 ∨ (2 : Nat) = 2) ∧ (k0 = 1 ∨ k0 = 2) ∧ s = p) from fun h => g h.2)] at h
            by_cases c : 4 < tx_e b L s - s
            · rw [if_pos (show (2 : Nat) = 2 ∧ 4 < tx_e b L s - s from ⟨rfl, c⟩)] at h; omega
            · exact f5 (by omega)
        · rw [k2]
          intro h4 _ s' hs1 hs2
          by_cases g : (k0 = 1 ∨ k0 = 2) ∧ s = p
          · rw [if_pos (show ((2 : Nat) = 1 ∨ (2 : Nat) = 2) ∧ (k0 = 1 ∨ k0 = 2) ∧ s = p from ⟨Or.inr rfl, g⟩)] at h4; omega
          · rw [if_neg (show ¬ (((2 : Nat) = 1 ∨ (2 : Nat) = 2) ∧ (k0 = 1 ∨ k0 = 2) ∧ s = p) from fun h => g h.2)] at h4 ⊢
            by_cases c : 4 < tx_e b L s - s
            · rw [if_pos (show (2 : Nat) = 2 ∧ 4 < tx_e b L s - s from ⟨rfl, c⟩)] at h4; omega
            · rw [if_neg (show ¬ ((2 : Nat) = 2 ∧ 4 < tx_e b L s - s) by omega), f6]
              exact ⟨fun h => ⟨Or.inr rfl, ((nI_eq (by omega) (by omega)).mp h).symm⟩, fun h => by rw [h.2]⟩
      · have k3 : tx_kd b L s = 3 := by omega
        have he : tx_e b L s = s + 1 := by unfold tx_e; rw [k3, if_neg (by omega), if_pos rfl]
        have g8 : bw_up M2 93 29 3 93 28 = nI s := by rw [z_up_i _ _ _ _ (by omega)]; exact e8
        have g0 : bw_up M2 93 29 3 110 s = nI (b s) := by rw [z_up_k _ _ _ _ (by omega)]; exact hT2.2 s hsL
        have g7 : bw_up (bw_up M2 93 29 3) 93 30 (nI (b s)) 93 27 = nI s := by rw [z_up_i _ _ _ _ (by omega), z_up_i _ _ _ _ (by omega)]; exact e7
        rw [if_neg k2, if_pos rfl, z_ml, g8, z_ib (by omega) (by omega), if_pos rfl, nI_clamp (by omega), g0, z_ml, g7, z_ml, nI_1, k3, he, if_neg (show ¬ (((3 : Nat) = 1 ∨ (3 : Nat) = 2) ∧ (k0 = 1 ∨ k0 = 2) ∧ s = p) by omega), if_neg (show ¬ ((3 : Nat) = 2 ∧ 4 < s + 1 - s) by omega)]
        refine ⟨_, rfl, ?_, ?_, z_up_s _ _ _ _, ?_, fun h => by omega, ?_, tx_mO_t hO (tx_mO_t (tx_mO_t (tx_mO_u (by omega)) (tx_mO_u (by omega))) (tx_mO_u (by omega)))⟩
        · rw [z_up_i _ _ _ _ (by omega), z_up_i _ _ _ _ (by omega)]; exact z_up_s _ _ _ _
        · rw [z_up_i _ _ _ _ (by omega), z_up_i _ _ _ _ (by omega)]; exact g8
        · intro _; rw [z_up_i _ _ _ _ (by omega)]; exact z_up_s _ _ _ _
        · intro _ _ s' hs1 hs2
          rw [z_up_i _ _ _ _ (by omega), z_up_i _ _ _ _ (by omega), z_up_i _ _ _ _ (by omega), e1]
          have := hc s' (by omega) (by omega)
          exact ⟨fun h => by have := this.mp h; omega, fun h => by omega⟩
