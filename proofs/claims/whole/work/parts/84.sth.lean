/-! level 2: text, the model's steps: operands, ends, joining signs, faults -/
theorem tx_ruK {b : Nat → Nat} {L k : Nat} : ∀ r p q, p ≤ q → q < tx_ru b L k r p → tx_kd b L q = k := by
  intro r
  induction r with
  | zero => intro p q h1 h2; simp only [tx_ru] at h2; omega
  | succ r ih =>
    intro p q h1 h2
    simp only [tx_ru] at h2
    by_cases g : tx_kd b L p = k
    · rw [if_pos g] at h2
      by_cases c : q = p
      · rw [c]; exact g
      · exact ih (p + 1) q (by omega) h2
    · rw [if_neg g] at h2; omega
theorem tx_kd2 {b : Nat → Nat} {L q : Nat} (g : tx_kd b L q = 2) : 48 ≤ b q ∧ b q ≤ 57 := by
  unfold tx_kd at g
  by_cases a0 : q < L
  · rw [if_pos a0] at g
    by_cases a1 : 97 ≤ b q ∧ b q ≤ 122
    · rw [if_pos a1] at g; omega
    · rw [if_neg a1] at g
      by_cases a2 : 48 ≤ b q ∧ b q ≤ 57
      · exact a2
      · rw [if_neg a2] at g; omega
  · rw [if_neg a0] at g; omega
theorem tx_sc2 {b : Nat → Nat} {L p k0 : Nat} (h : (tx_sc b L p k0).1 = 2) : (tx_sc b L p k0).2.2 - (tx_sc b L p k0).2.1 ≤ 4 ∧ ∀ q, (tx_sc b L p k0).2.1 ≤ q → q < (tx_sc b L p k0).2.2 → 48 ≤ b q ∧ b q ≤ 57 := by
  unfold tx_sc at h ⊢
  dsimp only at h ⊢
  generalize tx_sk b (L - p) p = s at h ⊢
  unfold tx_so at h
  by_cases g : (tx_kd b L s = 1 ∨ tx_kd b L s = 2) ∧ (k0 = 1 ∨ k0 = 2) ∧ s = p
  · rw [if_pos g] at h; omega
  · rw [if_neg g] at h
    by_cases c : tx_kd b L s = 2 ∧ 4 < tx_e b L s - s
    · rw [if_pos c] at h; omega
    · rw [if_neg c] at h
      have he : tx_e b L s = tx_ru b L 2 (L - s) s := by unfold tx_e; rw [h, if_neg (by omega), if_neg (by omega)]
      refine ⟨by omega, fun q h1 h2 => tx_kd2 (L := L) (tx_ruK (k := 2) (L - s) s q h1 (by rw [← he]; exact h2))⟩
theorem tx_S2 {b : Nat → Nat} {L i : Nat} (h : tx_S b L i = 2) : tx_E b L i - tx_P b L i ≤ 4 ∧ ∀ q, tx_P b L i ≤ q → q < tx_E b L i → 48 ≤ b q ∧ b q ≤ 57 := by
  cases i with
  | zero => exact tx_sc2 (p := 0) (k0 := 0) h
  | succ i => exact tx_sc2 (p := tx_E b L i) (k0 := tx_S b L i) h
theorem tx_nuB {b : Nat → Nat} : ∀ r p v, (∀ q, p ≤ q → q < p + r → b q ≤ 57) → tx_nu b r p v < (v + 1) * 10 ^ r := by
  intro r
  induction r with
  | zero => intro p v _; simp [tx_nu]
  | succ r ih =>
    intro p v h
    have h1 := ih (p + 1) (10 * v + (b p - 48)) (fun q h1 h2 => h q (by omega) (by omega))
    have hp := h p (by omega) (by omega)
    have h2 : (10 * v + (b p - 48) + 1) * 10 ^ r ≤ (10 * (v + 1)) * 10 ^ r := Nat.mul_le_mul_right _ (by omega)
    have h3 : (10 * (v + 1)) * 10 ^ r = (v + 1) * 10 ^ (r + 1) := by rw [Nat.pow_succ, Nat.mul_comm 10 (v + 1), Nat.mul_assoc, Nat.mul_comm 10]
    rw [← h3]
    exact Nat.lt_of_lt_of_le h1 h2
theorem tx_opB {b : Nat → Nat} {L key i : Nat} : (tx_op b L key i < 10000 + z_nms key ∧ (tx_S b L i = 1 ∨ tx_S b L i = 2)) ∨ tx_op b L key i = 20000 := by
  unfold tx_op
  by_cases g : tx_S b L i = 2
  · left
    rw [if_pos g]
    have h2 := tx_S2 g
    have h3 := tx_PB (b := b) (L := L) i
    have h1 := tx_nuB (b := b) (tx_E b L i - tx_P b L i) (tx_P b L i) 0 (fun q a1 a2 => (h2.2 q a1 (by omega)).2)
    have h4 : 10 ^ (tx_E b L i - tx_P b L i) ≤ 10 ^ 4 := Nat.pow_le_pow_right (by omega) h2.1
    refine ⟨?_, Or.inr g⟩
    simp only [Nat.zero_add, Nat.one_mul] at h1
    have h5 : (10 : Nat) ^ 4 = 10000 := by decide
    omega
  · rw [if_neg g]
    by_cases c : tx_S b L i = 1 ∧ tx_E b L i - tx_P b L i = 1 ∧ tx_nm key (b (tx_P b L i)) ≠ 9
    · left
      rw [if_pos c]
      have := tx_nm3 key (b (tx_P b L i))
      omega
    · right
      rw [if_neg c]
theorem tx_nms3 (key : Nat) : z_nms key ≤ 3 := by unfold z_nms; split <;> omega
theorem tx_goM {b : Nat → Nat} {L key i : Nat} {Mb M : Mem} {C W : List Nat} (hL : L ≤ 96) (hb : ∀ i, i < L → b i < 256) (h0 : tx_S b L i ≠ 0) (h4 : tx_S b L i ≠ 4) (g1 : tx_FR Mb M) (g2 : tx_MK b L i M) (g3 : M 93 32 = nI key) (g4 : tx_MC C M) (g5 : tx_MW W M) : ∃ M', f_X10_go M = some M' ∧ tx_FR Mb M' ∧ tx_MK b L (i + 1) M' ∧ M' 93 32 = nI key ∧ tx_MC C M' ∧ tx_MW W M' ∧ M' 115 = M 115 := by
  obtain ⟨M', e1, e2, e3⟩ := tx_goK hL hb g2 h0 h4
  exact ⟨M', e1, tx_FR_t g1 (tx_FR_o e3), e2, by rw [e3.2 32 (by omega)]; exact g3, ⟨by rw [e3.2 36 (by omega)]; exact g4.1, by rw [e3.2 37 (by omega)]; exact g4.2.1, fun k hk => by rw [e3.1 113 (by omega)]; exact g4.2.2 k hk⟩, ⟨by rw [e3.2 39 (by omega)]; exact g5.1, tx_wt_o W (fun k hk => by rw [e3.1 114 (by omega)]) g5.2⟩, e3.1 115 (by omega)⟩
theorem tx_bP {b : Nat → Nat} {L i : Nat} (hb : ∀ i, i < L → b i < 256) (h : tx_S b L i ≠ 0) : b (tx_P b L i) < 256 := hb _ ((tx_PB i).2 h).1
theorem tx_par1 {b : Nat → Nat} {L key i : Nat} {M : Mem} {C : List Nat} (hL : L ≤ 96) (hb : ∀ i, i < L → b i < 256) (hk : key ≤ 2) (g2 : tx_MK b L i M) (g3 : M 93 32 = nI key) (g4 : tx_MC C M) (hx : tx_op b L key i < 10003) : f_X10_takesPart M = f_X10_takesPart_J87 M (nI C.length) (nI (tx_op b L key i)) := by
  obtain ⟨a1, a2, a3, a4, a5, a6, a7⟩ := g2
  have hEL := tx_EL (b := b) (L := L) i
  have hPE := (tx_PB (b := b) (L := L) i).1
  unfold tx_op at hx ⊢
  unfold f_X10_takesPart
  by_cases g : tx_S b L i = 2
  · rw [if_pos g] at hx ⊢
    rw [a4, g, if_neg (show ¬ nI 2 = (1 : Int32) by decide)]
    unfold f_X10_takesPart_J36 f_X10_takesPart_J37 f_X10_takesPart_J52
    rw [a4, g, if_pos (show nI 2 = (2 : Int32) from rfl), if_pos (show nI 2 = (2 : Int32) from rfl), a6 g, g4.1]
  · rw [if_neg g] at hx ⊢
    by_cases c : tx_S b L i = 1 ∧ tx_E b L i - tx_P b L i = 1 ∧ tx_nm key (b (tx_P b L i)) ≠ 9
    · rw [if_pos c] at hx ⊢
      have hbP := tx_bP hb (show tx_S b L i ≠ 0 by omega)
      rw [a4, c.1, if_pos (show nI 1 = (1 : Int32) from rfl), a2, a3, pk_sub hPE, c.2.1, if_pos (show nI 1 = (1 : Int32) from rfl), a5 (Or.inl c.1), tx_nmI hk g3 hbP]
      have h3 := tx_nm3 key (b (tx_P b L i))
      have h4 := tx_nms3 key
      have e : tx_nI (tx_nm key (b (tx_P b L i))) = nI (tx_nm key (b (tx_P b L i))) := by unfold tx_nI; rw [if_neg c.2.2]
      rw [e, if_neg (nI_pos (by omega))]
      unfold f_X10_takesPart_J37 f_X10_takesPart_J52
      rw [a4, c.1, if_neg (show ¬ nI 1 = (2 : Int32) by decide), if_neg (show ¬ (1 : Int32) = 0 by decide), if_neg (show ¬ nI 1 = (2 : Int32) by decide), a5 (Or.inl c.1), tx_nmI hk g3 hbP, e, g4.1, l_10000, nI_add]
    · rw [if_neg c] at hx; omega
theorem tx_par0 {b : Nat → Nat} {L key i : Nat} {M : Mem} (hL : L ≤ 96) (hb : ∀ i, i < L → b i < 256) (hk : key ≤ 2) (g2 : tx_MK b L i M) (g3 : M 93 32 = nI key) (hx : tx_op b L key i = 20000) : f_X10_takesPart M = some (0, M) := by
  obtain ⟨a1, a2, a3, a4, a5, a6, a7⟩ := g2
  have hEL := tx_EL (b := b) (L := L) i
  have hPE := (tx_PB (b := b) (L := L) i).1
  have hB := tx_opB (b := b) (L := L) (key := key) (i := i)
  have h4 := tx_S4 (b := b) (L := L) i
  have n2 : ¬ tx_S b L i = 2 := by
    intro g
    have h2 := tx_S2 g
    have h3 := tx_PB (b := b) (L := L) i
    have h1 := tx_nuB (b := b) (tx_E b L i - tx_P b L i) (tx_P b L i) 0 (fun q a1 a2 => (h2.2 q a1 (by omega)).2)
    have h4 : 10 ^ (tx_E b L i - tx_P b L i) ≤ 10 ^ 4 := Nat.pow_le_pow_right (by omega) h2.1
    simp only [Nat.zero_add, Nat.one_mul] at h1
    have h5 : (10 : Nat) ^ 4 = 10000 := by decide
    unfold tx_op at hx
    rw [if_pos g] at hx
    omega
  have m2 : ¬ M 93 29 = 2 := by rw [a4]; exact z_neI (b := 2) n2 (by omega) (by omega)
  have j0 : f_X10_takesPart_J37 M 0 = some (0, M) := by
    unfold f_X10_takesPart_J37
    rw [if_neg m2, if_pos rfl]
  unfold f_X10_takesPart f_X10_takesPart_J36
  by_cases c1 : tx_S b L i = 1
  · rw [a4, c1, if_pos (show nI 1 = (1 : Int32) from rfl), a2, a3, pk_sub hPE]
    by_cases c2 : tx_E b L i - tx_P b L i = 1
    · have hbP := tx_bP hb (show tx_S b L i ≠ 0 by omega)
      have c3 : tx_nm key (b (tx_P b L i)) = 9 := by
        refine Classical.byContradiction (fun q => ?_)
        unfold tx_op at hx
        rw [if_neg n2, if_pos ⟨c1, c2, q⟩] at hx
        have h3 := tx_nm3 key (b (tx_P b L i))
        have h4 := tx_nms3 key
        omega
      rw [c2, if_pos (show nI 1 = (1 : Int32) from rfl), a5 (Or.inl c1), tx_nmI hk g3 hbP, c3, if_pos (show tx_nI 9 < 0 by decide)]
      exact j0
    · rw [if_neg (show ¬ nI (tx_E b L i - tx_P b L i) = (1 : Int32) from z_neI (b := 1) c2 (by omega) (by omega))]
      exact j0
  · rw [if_neg (show ¬ M 93 29 = (1 : Int32) by rw [a4]; exact z_neI (b := 1) c1 (by omega) (by omega))]
    exact j0
theorem tx_pa_z {W : List Nat} (h : ∀ x, x ∈ W → x ≠ 10020) : tx_pa W = 0 := by
  induction W with
  | nil => rfl
  | cons x W ih => rw [tx_pa, if_neg (h x List.mem_cons_self), ih (fun y hy => h y (List.mem_cons_of_mem _ hy))]
theorem tx_no_z {W : List Nat} (h : ∀ x, x ∈ W → x ≠ 10019) : tx_no W = 0 := by
  induction W with
  | nil => rfl
  | cons x W ih => rw [tx_no, if_neg (h x List.mem_cons_self), ih (fun y hy => h y (List.mem_cons_of_mem _ hy))]
theorem tx_rp (k : Nat) : (∀ x, x ∈ List.replicate k 10019 → x = 10019) := fun x hx => List.eq_of_mem_replicate hx
theorem tx_no_p (k : Nat) : tx_no (List.replicate k 10019) = k := by
  induction k with
  | zero => rfl
  | succ k ih => rw [List.replicate_succ, tx_no, ih, if_pos rfl]; omega
theorem tx_MC_x {C : List Nat} {x : Nat} {M : Mem} (hx : x < 10003) (h : tx_MC C M) : tx_MC (C ++ [x]) (bw_up (bw_up (bw_up M 113 C.length (nI x)) 93 36 (nI (C.length + 1))) 93 37 (nI (z_ato C + 1))) := by
  obtain ⟨h1, h2, h3⟩ := h
  refine ⟨?_, ?_, ?_⟩
  · rw [z_up_i _ _ _ _ (by omega), z_up_s, List.length_append, List.length_singleton]
  · rw [z_up_s, tx_ato_a, z_ato, z_ato, if_pos hx]
  · intro k hk
    rw [z_up_k _ _ _ _ (by omega), z_up_k _ _ _ _ (by omega)]
    rcases tx_gD hk with ⟨g, e⟩ | ⟨g, e⟩
    · rw [e, z_up_i _ _ _ _ (by omega)]; exact h3 k g
    · rw [e, g, z_up_s]
      unfold z_menc
      rw [if_pos hx]
/-- an operand -/
theorem tx_G3 {b : Nat → Nat} {L key i k : Nat} {Mb : Mem} {C W0 : List Nat} {t : Nat → Bool} (hL : L ≤ 96) (hb : ∀ i, i < L → b i < 256) (hk : key ≤ 2) (hl : C.length + (List.replicate k 10019 ++ W0).length ≤ i) (hP : i ≤ tx_P b L i) (hv : tx_wv W0) (hx : tx_op b L key i < 10003) (h0 : ∀ y V, W0 = y :: V → y = 10020 ∨ tx_rk y < 6) : tx_Go Mb b L key 1 i C (List.replicate k 10019 ++ W0) t 1 0 (i + 1) (C ++ tx_op b L key i :: List.replicate k 10019) W0 t := by
  intro n M h
  obtain ⟨g1, g2, g3, g4, g5, g6⟩ := h
  have hfu : bw_fu = 2000 := rfl
  have hS : tx_S b L i = 1 ∨ tx_S b L i = 2 := by rcases tx_opB (b := b) (L := L) (key := key) (i := i) with q | q <;> omega
  have hi : i < 96 := by have := tx_Pn hP (by omega); omega
  have hvW : tx_wv (List.replicate k 10019 ++ W0) := fun y hy => by
    rcases List.mem_append.mp hy with e | e
    · rw [tx_rp k y e]; omega
    · exact hv y e
  have hpa : tx_pa (List.replicate k 10019 ++ W0) = tx_pa W0 := by rw [tx_pa_a, tx_pa_z (fun x hx => by rw [tx_rp k x hx]; omega), Nat.zero_add]
  have hl2 : (List.replicate k 10019 ++ W0).length = k + W0.length := by rw [List.length_append, List.length_replicate]
  have q4 := tx_MC_x hx g4
  have hp := tx_par1 hL hb hk g2 g3 g4 hx
  have q1 : tx_FR Mb (bw_up (bw_up (bw_up M 113 C.length (nI (tx_op b L key i))) 93 36 (nI (C.length + 1))) 93 37 (nI (z_ato C + 1))) := tx_FR_t (tx_FR_t (tx_FR_t g1 (tx_FR_u (by omega))) (tx_FR_v (by omega))) (tx_FR_v (by omega))
  have q2 : tx_MK b L i (bw_up (bw_up (bw_up M 113 C.length (nI (tx_op b L key i))) 93 36 (nI (C.length + 1))) 93 37 (nI (z_ato C + 1))) := tx_MK_o (by rw [z_up_k _ _ _ _ (by omega), z_up_k _ _ _ _ (by omega), z_up_k _ _ _ _ (by omega)]) (fun j _ _ => by rw [z_up_i _ _ _ _ (by omega), z_up_i _ _ _ _ (by omega), z_up_k _ _ _ _ (by omega)]) g2
  have q3 : bw_up (bw_up (bw_up M 113 C.length (nI (tx_op b L key i))) 93 36 (nI (C.length + 1))) 93 37 (nI (z_ato C + 1)) 93 32 = nI key := by rw [z_up_i _ _ _ _ (by omega), z_up_i _ _ _ _ (by omega), z_up_k _ _ _ _ (by omega)]; exact g3
  have q5 : tx_MW (List.replicate k 10019 ++ W0) (bw_up (bw_up (bw_up M 113 C.length (nI (tx_op b L key i))) 93 36 (nI (C.length + 1))) 93 37 (nI (z_ato C + 1))) := ⟨by rw [z_up_i _ _ _ _ (by omega), z_up_i _ _ _ _ (by omega), z_up_k _ _ _ _ (by omega)]; exact g5.1, tx_wt_o _ (fun j _ => by rw [z_up_k _ _ _ _ (by omega), z_up_k _ _ _ _ (by omega), z_up_k _ _ _ _ (by omega)]) g5.2⟩
  obtain ⟨M1, e1, e2, e3, e4, e5, e6, e7⟩ := tx_set (r := 6) (W0 := W0) (by omega) h0 (List.replicate k 10019) (C ++ [tx_op b L key i]) bw_fu _ hvW (fun x hx => by rw [tx_rp k x hx]; exact ⟨by omega, by decide⟩) (by rw [List.length_append, List.length_singleton]; omega) (by rw [List.length_replicate]; omega) q1 q2 q3 q4 q5
  obtain ⟨M2, f1, f2, f3, f4, f5, f6, f7⟩ := tx_goM hL hb (show tx_S b L i ≠ 0 by omega) (by omega) e2 e3 e4 e5 e6
  refine ⟨M2, ⟨f2, f3, f4, ?_, f6, ?_⟩, ?_⟩
  · rw [List.append_assoc, List.singleton_append] at f5; exact f5
  · intro j hj
    rw [f7, e7, z_up_k _ _ _ _ (by omega), z_up_k _ _ _ _ (by omega), z_up_k _ _ _ _ (by omega)]
    exact g6 j (by omega)
  · have m9 : ¬ M 93 29 = 3 := by rw [g2.2.2.2.1]; exact z_neI (b := 3) (by omega) (by omega) (by omega)
    have hJ : f_X10_takesPart_J87 M (nI C.length) (nI (tx_op b L key i)) = some (1, M2) := by
      unfold f_X10_takesPart_J87
      have s36 : bw_up M 113 C.length (nI (tx_op b L key i)) 93 36 = nI C.length := by rw [z_up_k _ _ _ _ (by omega)]; exact g4.1
      have s37 : bw_up (bw_up M 113 C.length (nI (tx_op b L key i))) 93 36 (nI (C.length + 1)) 93 37 = nI (z_ato C) := by rw [z_up_i _ _ _ _ (by omega), z_up_k _ _ _ _ (by omega)]; exact g4.2.1
      rw [z_ib (by omega) (by omega), if_pos rfl, nI_clamp (by omega), z_ml, s36, nI_1, z_ml, s37, nI_1, z_ml]
      unfold f_X10_settle
      rw [l_6, e1, Option.bind_some, f1, Option.bind_some]
    rw [show nI 1 = (1 : Int32) from rfl, tx_l5 (fun q => m9 q.1) (fun q => m9 q.1), hp, hJ, Option.bind_some, if_neg (show ¬ (1 : Int32) = 0 by decide), tx_noO (by omega) hv f6, Option.bind_some, hpa]
    rfl
/-- no piece here -/
theorem tx_F1 {b : Nat → Nat} {L key i : Nat} {Mb : Mem} {C W : List Nat} {t : Nat → Bool} (hL : L ≤ 96) (hb : ∀ i, i < L → b i < 256) (hk : key ≤ 2) (hl : C.length + W.length ≤ 96) (hx : tx_op b L key i = 20000) (ha : ¬ (tx_S b L i = 3 ∧ b (tx_P b L i) = 33 ∧ tx_no W < 8)) (hc : ¬ (tx_S b L i = 3 ∧ b (tx_P b L i) = 40 ∧ tx_pa W < 8)) : tx_Fa Mb b L key 1 i C W t 1 i := by
  intro n M h
  obtain ⟨g1, g2, g3, g4, g5, g6⟩ := h
  have h4 := tx_S4 (b := b) (L := L) i
  have hno := tx_no_l W
  have hpa := tx_pa_l W
  have h3 : M 93 29 = 3 → tx_S b L i = 3 := fun q => (nI_eq (b := 3) (by omega) (by omega)).mp (g2.2.2.2.1.symm.trans q)
  have h8 : ∀ c : Nat, c < 256 → tx_S b L i = 3 → M 93 30 = nI c → b (tx_P b L i) = c := fun c hc q e => by
    have := tx_bP hb (show tx_S b L i ≠ 0 by omega)
    exact (nI_eq (by omega) (by omega)).mp ((g2.2.2.2.2.1 (Or.inr q)).symm.trans e)
  refine ⟨M, ?_, g1, g2.2.2.1⟩
  rw [show nI 1 = (1 : Int32) from rfl, tx_l5 (fun q => ha ⟨h3 q.1, h8 33 (by omega) (h3 q.1) q.2.1, ?_⟩) (fun q => hc ⟨h3 q.1, h8 40 (by omega) (h3 q.1) q.2.1, ?_⟩), tx_par0 hL hb hk g2 g3 hx, Option.bind_some, if_pos rfl]
  · exact Nat.lt_of_not_le (fun e => q.2.2 (nI_le (a := 8) e (by omega)))
  · exact Nat.lt_of_not_le (fun e => q.2.2 (nI_le (a := 8) e (by omega)))
