/-! level 2: text, the model's steps by what it keeps -/
def tx_MS (Mb : Mem) (b : Nat → Nat) (L key i : Nat) (C W : List Nat) (t : Nat → Bool) (M : Mem) : Prop := tx_FR Mb M ∧ tx_MK b L i M ∧ M 93 32 = nI key ∧ tx_MC C M ∧ tx_MW W M ∧ tx_Mt (tx_pa W) t M
def tx_sg (b : Nat → Nat) (L i : Nat) : Nat := if tx_S b L i = 3 then b (tx_P b L i) else 0
def tx_op (b : Nat → Nat) (L key i : Nat) : Nat := if tx_S b L i = 2 then tx_nu b (tx_E b L i - tx_P b L i) (tx_P b L i) 0 else if tx_S b L i = 1 ∧ tx_E b L i - tx_P b L i = 1 ∧ tx_nm key (b (tx_P b L i)) ≠ 9 then 10000 + tx_nm key (b (tx_P b L i)) else 20000
/-- one L28 call becomes another -/
def tx_Go (Mb : Mem) (b : Nat → Nat) (L key w i : Nat) (C W : List Nat) (t : Nat → Bool) (k w' i' : Nat) (C' W' : List Nat) (t' : Nat → Bool) : Prop := ∀ (n : Nat) (M : Mem), tx_MS Mb b L key i C W t M → ∃ M', tx_MS Mb b L key i' C' W' t' M' ∧ f_X10_takesE_L28 (n + k) (nI (tx_pa W)) (nI (tx_no W)) (nI w) M = f_X10_takesE_L28 n (nI (tx_pa W')) (nI (tx_no W')) (nI w') M'
def tx_Fa (Mb : Mem) (b : Nat → Nat) (L key w i : Nat) (C W : List Nat) (t : Nat → Bool) (k i' : Nat) : Prop := ∀ (n : Nat) (M : Mem), tx_MS Mb b L key i C W t M → ∃ M', f_X10_takesE_L28 (n + k) (nI (tx_pa W)) (nI (tx_no W)) (nI w) M = some (0, M') ∧ tx_FR Mb M' ∧ M' 93 28 = nI (tx_P b L i')
theorem tx_Go_t {Mb : Mem} {b : Nat → Nat} {L key w i k w1 i1 k1 w2 i2 : Nat} {C W C1 W1 C2 W2 : List Nat} {t t1 t2 : Nat → Bool} (h : tx_Go Mb b L key w i C W t k w1 i1 C1 W1 t1) (g : tx_Go Mb b L key w1 i1 C1 W1 t1 k1 w2 i2 C2 W2 t2) : tx_Go Mb b L key w i C W t (k1 + k) w2 i2 C2 W2 t2 := by
  intro n M hM
  obtain ⟨M1, a1, a2⟩ := h (n + k1) M hM
  obtain ⟨M2, c1, c2⟩ := g n M1 a1
  exact ⟨M2, c1, by rw [← Nat.add_assoc, a2, c2]⟩
theorem tx_Fa_t {Mb : Mem} {b : Nat → Nat} {L key w i k w1 i1 k1 i2 : Nat} {C W C1 W1 : List Nat} {t t1 : Nat → Bool} (h : tx_Go Mb b L key w i C W t k w1 i1 C1 W1 t1) (g : tx_Fa Mb b L key w1 i1 C1 W1 t1 k1 i2) : tx_Fa Mb b L key w i C W t (k1 + k) i2 := by
  intro n M hM
  obtain ⟨M1, a1, a2⟩ := h (n + k1) M hM
  obtain ⟨M2, c1, c2⟩ := g n M1 a1
  exact ⟨M2, by rw [← Nat.add_assoc, a2, c1], c2⟩
theorem tx_S3 {b : Nat → Nat} {L key i : Nat} {Mb M : Mem} {C W : List Nat} {t : Nat → Bool} (h : tx_MS Mb b L key i C W t M) {s : Nat} (hs : tx_S b L i = s) : M 93 29 = nI s := by rw [← hs]; exact h.2.1.2.2.2.1
/-- push of a sign and the next token -/
theorem tx_push {b : Nat → Nat} {L key i x : Nat} {Mb M : Mem} {C W : List Nat} (hL : L ≤ 96) (hb : ∀ i, i < L → b i < 256) (hl : C.length + W.length ≤ i) (hi : i < 96) (h0 : tx_S b L i ≠ 0) (h4 : tx_S b L i ≠ 4) (g1 : tx_FR Mb M) (g2 : tx_MK b L i M) (g3 : M 93 32 = nI key) (g4 : tx_MC C M) (g5 : tx_MW W M) : ∃ M', f_X10_go (bw_up (bw_up M 114 W.length (z_menc x)) 93 39 (nI (W.length + 1))) = some M' ∧ tx_FR Mb M' ∧ tx_MK b L (i + 1) M' ∧ M' 93 32 = nI key ∧ tx_MC C M' ∧ tx_MW (x :: W) M' ∧ M' 115 = M 115 := by
  have q2 : tx_MK b L i (bw_up (bw_up M 114 W.length (z_menc x)) 93 39 (nI (W.length + 1))) := tx_MK_o (by rw [z_up_k _ _ _ _ (by omega), z_up_k _ _ _ _ (by omega)]) (fun j _ _ => by rw [z_up_i _ _ _ _ (by omega), z_up_k _ _ _ _ (by omega)]) g2
  obtain ⟨M', e1, e2, e3⟩ := tx_goK hL hb q2 h0 h4
  have r : ∀ y, y ≠ 93 → y ≠ 114 → M' y = M y := fun y h h' => by rw [e3.1 y h, z_up_k _ _ _ _ h, z_up_k _ _ _ _ h']
  have r93 : ∀ j, 31 < j → j ≠ 39 → M' 93 j = M 93 j := fun j h h' => by rw [e3.2 j (by omega), z_up_i _ _ _ _ h', z_up_k _ _ _ _ (by omega)]
  refine ⟨M', e1, tx_FR_t (tx_FR_t (tx_FR_t g1 (tx_FR_u (by omega))) (tx_FR_v (by omega))) (tx_FR_o e3), e2, by rw [r93 32 (by omega) (by omega)]; exact g3, ⟨by rw [r93 36 (by omega) (by omega)]; exact g4.1, by rw [r93 37 (by omega) (by omega)]; exact g4.2.1, fun k hk => by rw [r 113 (by omega) (by omega)]; exact g4.2.2 k hk⟩, ⟨?_, ?_, ?_⟩, r 115 (by omega) (by omega)⟩
  · rw [e3.2 39 (by omega), z_up_s]; rfl
  · rw [e3.1 114 (by omega), z_up_k _ _ _ _ (by omega), z_up_s]
  · exact tx_wt_o W (fun k hk => by rw [e3.1 114 (by omega), z_up_k _ _ _ _ (by omega), z_up_i _ _ _ _ (by omega)]) g5.2
/-- a not -/
theorem tx_G1 {b : Nat → Nat} {L key i : Nat} {Mb : Mem} {C W : List Nat} {t : Nat → Bool} (hL : L ≤ 96) (hb : ∀ i, i < L → b i < 256) (hl : C.length + W.length ≤ i) (hP : i ≤ tx_P b L i) (hv : tx_wv W) (hS : tx_S b L i = 3) (hc : b (tx_P b L i) = 33) (hn : tx_no W < 8) : tx_Go Mb b L key 1 i C W t 1 1 (i + 1) C (10019 :: W) t := by
  intro n M h
  obtain ⟨g1, g2, g3, g4, g5, g6⟩ := h
  have hi : i < 96 := by have := tx_Pn hP (by omega); omega
  obtain ⟨M', e1, e2, e3, e4, e5, e6, e7⟩ := tx_push (x := 10019) hL hb hl hi (by omega) (by omega) g1 g2 g3 g4 g5
  have hv' : tx_wv (10019 :: W) := tx_wv_c (by omega) hv
  refine ⟨M', ⟨e2, e3, e4, e5, e6, ?_⟩, ?_⟩
  · intro j hj; rw [e7]; exact g6 j (by simpa [tx_pa] using hj)
  · have h9 : M 93 29 = 3 := by rw [g2.2.2.2.1, hS]; rfl
    have h0 : M 93 30 = 33 := by rw [g2.2.2.2.2.1 (Or.inr hS), hc]; rfl
    have h39 : (M 93 39) = nI W.length := g5.1
    have u39 : bw_up M 114 W.length (-10 : Int32) 93 39 = nI W.length := by rw [z_up_k _ _ _ _ (by omega)]; exact h39
    have em : (-10 : Int32) = z_menc 10019 := by decide
    rw [show nI 1 = (1 : Int32) from rfl, tx_l3 h9 h0 (show ¬ (8 : Int32) ≤ nI (tx_no W) from nI_ge (b := 8) (by omega) (by omega)) (by rw [h39]; exact z_ib (by omega) (by omega)), z_ml, h39, nI_clamp (by omega), u39, nI_1, z_ml, em, e1, Option.bind_some, tx_noO (by simp only [List.length_cons]; omega) hv' e6, Option.bind_some]
    simp [tx_pa]
/-- an opening parenthesis -/
theorem tx_G2 {b : Nat → Nat} {L key i : Nat} {Mb : Mem} {C W : List Nat} {t t' : Nat → Bool} (hL : L ≤ 96) (hb : ∀ i, i < L → b i < 256) (hl : C.length + W.length ≤ i) (hP : i ≤ tx_P b L i) (hv : tx_wv W) (hS : tx_S b L i = 3) (hc : b (tx_P b L i) = 40) (hn : tx_pa W < 8) (ht : ∀ j, j ≤ tx_pa W → t' j = t j) (ht1 : t' (tx_pa W + 1) = false) : tx_Go Mb b L key 1 i C W t 1 1 (i + 1) C (10020 :: W) t' := by
  intro n M h
  obtain ⟨g1, g2, g3, g4, g5, g6⟩ := h
  have hi : i < 96 := by have := tx_Pn hP (by omega); omega
  have hv' : tx_wv (10020 :: W) := tx_wv_c (by omega) hv
  have h9 : M 93 29 = 3 := by rw [g2.2.2.2.1, hS]; rfl
  have h0 : M 93 30 = 40 := by rw [g2.2.2.2.2.1 (Or.inr hS), hc]; rfl
  have h39 : (M 93 39) = nI W.length := g5.1
  have u39 : bw_up M 114 W.length (-11 : Int32) 93 39 = nI W.length := by rw [z_up_k _ _ _ _ (by omega)]; exact h39
  have em : (-11 : Int32) = z_menc 10020 := by decide
  have eq : bw_up (bw_up (bw_up M 114 W.length (z_menc 10020)) 93 39 (nI (W.length + 1))) 115 (tx_pa W + 1) (bw_nz 0) = bw_up (bw_up (bw_up M 115 (tx_pa W + 1) (bw_nz 0)) 114 W.length (z_menc 10020)) 93 39 (nI (W.length + 1)) := by
    funext x y
    rw [z_up, z_up, z_up, z_up, z_up, z_up]
    by_cases c1 : x = 115
    · subst c1
      rw [if_neg (show ¬ ((115 : Nat) = 93 ∧ y = 39) by omega), if_neg (show ¬ ((115 : Nat) = 114 ∧ y = W.length) by omega)]
      simp
    · rw [if_neg (show ¬ (x = 115 ∧ y = tx_pa W + 1) from fun h => c1 h.1), if_neg (show ¬ (x = 115 ∧ y = tx_pa W + 1) from fun h => c1 h.1)]
  have k4 : tx_MC C (bw_up M 115 (tx_pa W + 1) (bw_nz 0)) := ⟨by rw [z_up_k _ _ _ _ (by omega)]; exact g4.1, by rw [z_up_k _ _ _ _ (by omega)]; exact g4.2.1, fun k hk => by rw [z_up_k _ _ _ _ (by omega)]; exact g4.2.2 k hk⟩
  have k5 : tx_MW W (bw_up M 115 (tx_pa W + 1) (bw_nz 0)) := ⟨by rw [z_up_k _ _ _ _ (by omega)]; exact g5.1, tx_wt_o W (fun k hk => by rw [z_up_k _ _ _ _ (by omega)]) g5.2⟩
  obtain ⟨M', e1, e2, e3, e4, e5, e6, e7⟩ := tx_push (x := 10020) (M := bw_up M 115 (tx_pa W + 1) (bw_nz 0)) (key := key) hL hb hl hi (by omega) (by omega) (tx_FR_t g1 (tx_FR_u (by omega))) (tx_MK_o (by rw [z_up_k _ _ _ _ (by omega)]) (fun j _ _ => by rw [z_up_k _ _ _ _ (by omega)]) g2) (by rw [z_up_k _ _ _ _ (by omega)]; exact g3) k4 k5
  refine ⟨M', ⟨e2, e3, e4, e5, e6, ?_⟩, ?_⟩
  · intro j hj
    have hj' : j ≤ tx_pa W + 1 := by
      have : tx_pa (10020 :: W) = 1 + tx_pa W := by simp [tx_pa]
      omega
    rw [e7]
    by_cases c : j = tx_pa W + 1
    · subst c
      rw [z_up_s, ht1]
      exact ⟨fun _ => rfl, fun _ => by decide⟩
    · rw [z_up_i _ _ _ _ c, ht j (by omega)]
      exact g6 j (by omega)
  · have hpl := tx_pa_l W
    rw [show nI 1 = (1 : Int32) from rfl, tx_l4 h9 h0 (show ¬ (8 : Int32) ≤ nI (tx_pa W) from nI_ge (b := 8) (by omega) (by omega)) (by rw [h39]; exact z_ib (by omega) (by omega)) (by rw [nI_1]; exact z_ib (by omega) (by omega)), z_ml, h39, nI_clamp (by omega), u39, nI_1, z_ml, z_ml, em, nI_1, nI_clamp (by omega), eq, e1, Option.bind_some, tx_noO (by simp only [List.length_cons]; omega) hv' e6, Option.bind_some]
    simp [tx_pa, Nat.add_comm]
