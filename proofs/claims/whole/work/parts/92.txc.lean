/-! level 2: text -/
theorem tx_suW {s : Nat → Nat} (hW : z_W s) (hs : s 6 < 14) : z_W (z_su s 6 (s 6 + 1)) := by
  obtain ⟨hN, hB, hD, hA⟩ := hW
  have e : ∀ i, i ≠ 6 → z_su s 6 (s 6 + 1) i = s i := fun i hi => by rw [z_su_a, if_neg hi]
  have e6 : z_su s 6 (s 6 + 1) 6 = s 6 + 1 := by rw [z_su_a, if_pos rfl]
  refine ⟨?_, fun i hi => ?_, fun i hi => ?_, fun i hi => ?_⟩
  · unfold z_WN
    rw [e6, e 1 (by omega), e 2 (by omega), e 3 (by omega), e 4 (by omega), e 5 (by omega), e 7 (by omega)]
    obtain ⟨w1, w2, w3, w4⟩ := hN
    exact ⟨w1, w2, by omega, w4⟩
  · rw [e 4 (by omega)] at hi
    rw [e _ (by omega), e _ (by omega), e _ (by omega), e _ (by omega)]; exact hB i hi
  · rw [e 5 (by omega)] at hi
    rw [e (110 + 4 * i) (by omega), e (111 + 4 * i) (by omega), e (112 + 4 * i) (by omega), e (113 + 4 * i) (by omega), e 4 (by omega)]; exact hD i hi
  · rw [e 7 (by omega)] at hi
    rw [e _ (by omega)]; exact hA i hi
/-- the stock with one text more -/
theorem tx_StkN {A M2 : Mem} {s : Nat → Nat} {u : Nat → TU} {v : TU} (hS : z_Stk A 25 94 s u) (hs : s 6 < 14) (f25 : ∀ j, j ≠ 13 → M2 25 j = A 25 j) (f13 : M2 25 13 = nI (s 6 + 1)) (f32 : ∀ j, j ≠ s 6 → M2 32 j = A 32 j) (f32t : M2 32 (s 6) = nI v.1) (fk : ∀ k, 26 ≤ k → k ≤ 44 → k ≠ 32 → M2 k = A k) (hLE : z_LE A M2) (g6 : M2 94 6 = nI (s 6 + 1)) (g158 : M2 94 (158 + 2 * s 6) = nI (1000 * v.2.1 + v.2.2.length)) (g159 : M2 94 (159 + 2 * s 6) = nI (z_ato v.2.2)) (gc : ∀ j, j < v.2.2.length → M2 94 (186 + 96 * s 6 + j) = z_menc (v.2.2.getD j 0)) (gr : ∀ j, j ≠ 6 → j ≠ 158 + 2 * s 6 → j ≠ 159 + 2 * s 6 → ¬ (186 + 96 * s 6 ≤ j ∧ j < 186 + 96 * s 6 + v.2.2.length) → M2 94 j = A 94 j) (hv : z_Tok v) (hl : z_Law M2 v) : z_Stk M2 25 94 (z_su s 6 (s 6 + 1)) (fun t => if t = s 6 then v else u t) := by
  obtain ⟨h1, h2, h3, h4, h5, h6, h7, h8⟩ := hS
  have e : ∀ i, i ≠ 6 → z_su s 6 (s 6 + 1) i = s i := fun i hi => by rw [z_su_a, if_neg hi]
  have e6 : z_su s 6 (s 6 + 1) 6 = s 6 + 1 := by rw [z_su_a, if_pos rfl]
  refine ⟨tx_suW h1 hs, ?_, ?_, ?_, ?_, ?_, ?_, ?_⟩
  · intro i i1 i2
    by_cases c : i = 6
    · subst c; rw [e6]; exact g6
    · rw [e i c, gr i c (by omega) (by omega) (by omega)]; exact h2 i i1 i2
  · rw [f25 8 (by omega), gr 0 (by omega) (by omega) (by omega) (by omega)]; exact h3
  · obtain ⟨c1, c2, c3, c4, c5, c6, c7⟩ := h4
    unfold z_CN
    rw [f13, f25 0 (by omega), f25 5 (by omega), f25 6 (by omega), f25 7 (by omega), f25 9 (by omega), f25 11 (by omega), e6, e 1 (by omega), e 2 (by omega), e 3 (by omega), e 4 (by omega), e 5 (by omega), e 7 (by omega)]
    exact ⟨c1, c2, c3, c4, c5, c6, rfl⟩
  · intro i hi
    rw [e 4 (by omega)] at hi
    rw [fk (25 + 1) (by omega) (by omega) (by omega), fk (25 + 2) (by omega) (by omega) (by omega), fk (25 + 3) (by omega) (by omega) (by omega), fk (25 + 4) (by omega) (by omega) (by omega), e _ (by omega), e _ (by omega), e _ (by omega), e _ (by omega)]
    exact h5 i hi
  · intro i hi
    rw [e 5 (by omega)] at hi
    have : s 5 ≤ 12 := h1.1.2.1
    rw [fk (25 + 8 + i) (by omega) (by omega) (by omega), e _ (by omega), e _ (by omega), e _ (by omega), e _ (by omega)]
    exact h6 i hi
  · intro i hi
    rw [e 7 (by omega)] at hi
    rw [fk (25 + 6) (by omega) (by omega) (by omega), e _ (by omega)]
    exact h7 i hi
  · intro t ht
    rw [e6] at ht
    by_cases c : t = s 6
    · subst c
      dsimp only
      rw [if_pos rfl]
      exact ⟨f32t, hv, hl, g158, g159, gc⟩
    · dsimp only
      rw [if_neg c]
      obtain ⟨k1, k2, k3, k4, k5, k6⟩ := h8 t (by omega)
      have kl := k2.2.2.2.1
      have vl := hv.2.2.2.1
      refine ⟨?_, k2, z_Law_fr hLE k3, ?_, ?_, ?_⟩
      · rw [f32 t c]; exact k1
      · rw [gr _ (by omega) (by omega) (by omega) (by omega)]; exact k4
      · rw [gr _ (by omega) (by omega) (by omega) (by omega)]; exact k5
      · intro k hk
        rw [gr _ (by omega) (by omega) (by omega) (by omega)]; exact k6 k hk
theorem op_text : Op_text Inv := by
  intro n M hn hI
  have hI0 := hI
  obtain ⟨-, -, ⟨L, hL, t1, t2, t3⟩, hK, -, -, -, -, -⟩ := hI0
  have hbb : ∀ i, i < L → (M 17 i).toNatClampNeg < 256 ∧ M 17 i = nI ((M 17 i).toNatClampNeg) ∧ M 110 i = nI ((M 17 i).toNatClampNeg) := by
    intro i hi
    obtain ⟨e1, q, hq, e2⟩ := t3 i hi
    rw [← e1, e2, nI_clamp (by omega)]
    exact ⟨hq, rfl, rfl⟩
  have hb : ∀ i, i < L → (fun i => (M 17 i).toNatClampNeg) i < 256 := fun i hi => (hbb i hi).1
  have hT : tx_cT (fun i => (M 17 i).toNatClampNeg) L M := ⟨t1, fun i hi => (hbb i hi).2.1⟩
  have hmT : ∀ X : Mem, X 93 26 = M 93 26 → X 110 = M 110 → tx_mT (fun i => (M 17 i).toNatClampNeg) L X := fun X x1 x2 => ⟨x1.trans t2, fun i hi => by rw [x2]; exact (hbb i hi).2.2⟩
  generalize (fun i => (M 17 i).toNatClampNeg) = b at hb hT hmT
  have prs : ∀ {A B : Mem}, tx_FR A B → ∀ k, z_pr k → B k = A k := fun h => h.1.1
  rcases tx_both hL hb hT with ⟨i', M1, r1, r2, r3, r4⟩ | ⟨key, D, M1, r1, r2, hk, hD, htw, r5, r6, r7, r8, r9⟩
  · -- a fault
    have hI1 := tx_InvF r2 hI
    have hIE := tx_InvE hI1
    obtain ⟨X, x1, x2, x3⟩ := r4 (bw_up M1 16 1 0) (hmT _ (by rw [z_up_k _ _ _ _ (by omega)]; exact r2.1.2.2.2.1) (by rw [z_up_k _ _ _ _ (by omega)]; exact prs r2 110 (by unfold z_pr; omega))) (z_Key_fr (by rw [z_up_k _ _ _ _ (by omega)]; exact prs r2 111 (by unfold z_pr; omega)) (by rw [z_up_k _ _ _ _ (by omega)]; exact prs r2 112 (by unfold z_pr; omega)) hK)
    refine ⟨-100 - nI (tx_P b L i'), bw_up M1 16 1 0, bw_up X 93 26 0, ?_, ?_, Inv_mono _ _ (tx_InvF (tx_FR_e x2) hIE)⟩
    · unfold f_X9_text
      rw [r1, Option.bind_some]
      dsimp only
      rw [z_ml, if_pos rfl, z_up_i _ _ _ _ (show 3 ≠ 1 by omega), r3]
    · rw [x1]
      unfold f_X10_text_J33
      rw [z_ml, if_pos rfl, z_up_i _ _ _ _ (show 28 ≠ 26 by omega), x3]
  · -- a law
    have hI1 := tx_InvF r2 hI
    have hatl := tx_ato_l D
    have hrok := tx_rok hI1 r6 hD r7 (by omega)
    rw [hrok, if_pos rfl] at r1
    have hIA := tx_InvA hn hI1
    have hI2 := hI1
    obtain ⟨⟨s, u, hS⟩, -, -, hK1, -, -, -, -, ⟨⟨c, hc1, hc2, hc3⟩, hc4, -⟩⟩ := hI2
    obtain ⟨a1, a2, a3, a4, a5, a6, a7, a8⟩ := tx_al hc2 hc3
    have hu := fun t ht => tx_uB hS hc2 hc3 (fun i hi => (hc4 i hi).1) (t := t) ht
    have hSA : z_Stk (bw_alloc M1) 25 94 s u := tx_StkA (by omega) (by omega) (by omega) (by omega) a1 hu hS
    have h14 : s 6 ≤ 14 := hS.1.1.2.2.1
    have d13 : bw_alloc M1 25 13 = nI (s 6) := hSA.2.2.2.1.2.2.2.2.2.2
    have m6 : bw_alloc M1 94 6 = nI (s 6) := hSA.2.1 6 (by omega) (by omega)
    have e6 : (6 : Int32).toNatClampNeg = 6 := by decide
    rw [hc3, nI_1] at r1
    have hne : ¬ nI (c + 1) = 0 := nI_ne0 (by omega) (by omega)
    have aM : ∀ k, k ≠ 0 → k < 129 → bw_alloc M1 k = M1 k := fun k k0 k1 => a1 k k0 (by omega)
    by_cases full : s 6 = 14
    · obtain ⟨X, x1, x2, x3, x4⟩ := r9 (bw_up (bw_alloc M1) 16 1 0) (hmT _ (by rw [z_up_k _ _ _ _ (by omega), aM 93 (by omega) (by omega)]; exact r2.1.2.2.2.1) (by rw [z_up_k _ _ _ _ (by omega), aM 110 (by omega) (by omega)]; exact prs r2 110 (by unfold z_pr; omega))) (z_Key_fr (by rw [z_up_k _ _ _ _ (by omega), aM 111 (by omega) (by omega)]) (by rw [z_up_k _ _ _ _ (by omega), aM 112 (by omega) (by omega)]) hK1)
      refine ⟨-1000000003, bw_up (bw_alloc M1) 16 1 0, bw_up X 93 26 0, ?_, ?_, tx_InvF (tx_FR_e x2) (tx_InvE hIA)⟩
      · unfold f_X9_text
        rw [r1, Option.bind_some]
        dsimp only
        rw [z_ml, if_neg hne, z_up_k _ _ _ _ (show 25 ≠ 16 by omega), d13, if_neg (show ¬ nI (s 6) < (14 : Int32) from nI_nlt (b := 14) (by omega) (by omega))]
      · rw [x1]
        unfold f_X10_text_J33
        rw [z_ml, if_neg (show ¬ (1 : Int32) = 0 by decide), e6, z_up_k _ _ _ _ (show 94 ≠ 93 by omega), prs x2 94 (by unfold z_pr; omega), z_up_k _ _ _ _ (show 94 ≠ 16 by omega), m6, if_pos (show nI (s 6) = (14 : Int32) by rw [full]; rfl)]
    · have hs : s 6 < 14 := by omega
      obtain ⟨Mc, hMc⟩ : ∃ Mc, Mc = bw_up (bw_up (bw_up (bw_alloc M1) 16 1 0) 32 (s 6) (nI (c + 1))) 25 13 (nI (s 6 + 1)) := ⟨_, rfl⟩
      have cr : ∀ k, k ≠ 16 → k ≠ 25 → k ≠ 32 → Mc k = bw_alloc M1 k := fun k k1 k2 k3 => by rw [hMc, z_up_k _ _ _ _ k2, z_up_k _ _ _ _ k3, z_up_k _ _ _ _ k1]
      have cM : ∀ k, k ≠ 0 → k < 129 → k ≠ 16 → k ≠ 25 → k ≠ 32 → Mc k = M1 k := fun k k0 k1 k2 k3 k4 => (cr k k2 k3 k4).trans (aM k k0 k1)
      obtain ⟨X, x1, x2, x3, x4⟩ := r9 Mc (hmT _ (by rw [cM 93 (by omega) (by omega) (by omega) (by omega) (by omega)]; exact r2.1.2.2.2.1) (by rw [cM 110 (by omega) (by omega) (by omega) (by omega) (by omega)]; exact prs r2 110 (by unfold z_pr; omega))) (z_Key_fr (cM 111 (by omega) (by omega) (by omega) (by omega) (by omega)) (cM 112 (by omega) (by omega) (by omega) (by omega) (by omega)) hK1)
      have x94 : X 94 = bw_alloc M1 94 := (prs x2 94 (by unfold z_pr; omega)).trans (cr 94 (by omega) (by omega) (by omega))
      obtain ⟨M7, hM7⟩ : ∃ M7, M7 = bw_up X 93 26 0 := ⟨_, rfl⟩
      have r94 : M7 94 = bw_alloc M1 94 := by rw [hM7, z_up_k _ _ _ _ (by omega)]; exact x94
      obtain ⟨M8, hM8⟩ : ∃ M8, M8 = bw_up (bw_up M7 94 (158 + 2 * s 6) (nI (1000 * key + D.length))) 94 (159 + 2 * s 6) (nI (z_ato D)) := ⟨_, rfl⟩
      have r8k : ∀ k, k ≠ 94 → M8 k = M7 k := fun k hk => by rw [hM8, z_up_k _ _ _ _ hk, z_up_k _ _ _ _ hk]
      have r793 : ∀ j, j ≠ 26 → M7 93 j = X 93 j := fun j hj => by rw [hM7, z_up_i _ _ _ _ hj]
      have r7k : ∀ k, k ≠ 93 → M7 k = X k := fun k hk => by rw [hM7, z_up_k _ _ _ _ hk]
      have e36 : M7 93 36 = nI D.length := by rw [r793 36 (by omega)]; exact x4.1
      have hfu : bw_fu = 2000 := rfl
      obtain ⟨M2, g1, g2, g3, g4, g5⟩ := tx_cpL hs hD D.length 0 bw_fu M8 (by omega) (by omega) (by rw [r8k 93 (by omega)]; exact e36) (fun j hj => by rw [r8k 113 (by omega), r7k 113 (by omega)]; exact x4.2.2 j hj) (by rw [hM8, z_up_i _ _ _ _ (by omega), z_up_i _ _ _ _ (by omega), r94]; exact m6)
      have rk : ∀ k, k ≠ 94 → k ≠ 93 → M2 k = X k := fun k k1 k2 => by rw [g5 k k1, r8k k k1, r7k k k2]
      have r93 : ∀ j, j ≠ 26 → M2 93 j = X 93 j := fun j hj => by rw [g5 93 (by omega), r8k 93 (by omega), r793 j hj]
      have r9326 : M2 93 26 = 0 := by rw [g5 93 (by omega), r8k 93 (by omega), hM7, z_up_s]
      have xk : ∀ k, z_pr k → k ≠ 94 → M2 k = Mc k := fun k hk k4 => by
        have : k ≠ 93 := fun e => by subst e; unfold z_pr at hk; omega
        rw [rk k k4 this]; exact prs x2 k hk
      refine ⟨nI (s 6), Mc, M2, ?_, ?_, ?_⟩
      · have u13 : bw_up (bw_alloc M1) 16 1 0 25 13 = nI (s 6) := by rw [z_up_k _ _ _ _ (by omega)]; exact d13
        have u13' : bw_up (bw_up (bw_alloc M1) 16 1 0) 32 (s 6) (nI (c + 1)) 25 13 = nI (s 6) := by rw [z_up_k _ _ _ _ (by omega)]; exact u13
        have hlk : bw_lk0 (bw_up (bw_alloc M1) 16 1 0) (nI (c + 1)) = true := tx_lk (c := c + 1) (by omega) (by rw [z_up_k _ _ _ _ (by omega)]; exact a3) ⟨c + 1, by rw [z_up_k _ _ _ _ (by omega), a3, nI_clamp (by omega)]; exact Nat.le_refl _, rfl⟩
        unfold f_X9_text
        rw [r1, Option.bind_some]
        dsimp only
        rw [z_ml, if_neg hne, u13, if_pos (show nI (s 6) < (14 : Int32) from nI_lt (b := 14) hs (by omega))]
        unfold f_X6_addText
        rw [u13, if_pos (show nI (s 6) < (14 : Int32) from nI_lt (b := 14) hs (by omega)), z_ib hs (by omega), if_pos rfl, hlk, if_pos rfl, nI_clamp (by omega), z_ml, u13', nI_1, z_ml, Option.bind_some, z_up_s, hMc, l_1, pk_sub (by omega), Nat.add_sub_cancel]
      · have i1 : (158 : Int32) + 2 * nI (s 6) = nI (158 + 2 * s 6) := by rw [l_158, l_2, pk_mul, nI_add]
        have i2 : nI (158 + 2 * s 6) + 1 = nI (159 + 2 * s 6) := by rw [nI_1]; congr 1; omega
        have v1 : (1000 : Int32) * M7 93 32 + M7 93 36 = nI (1000 * key + D.length) := by rw [e36, r793 32 (by omega), x3, l_1000, pk_mul, nI_add]
        have v2 : bw_up M7 94 (158 + 2 * s 6) (nI (1000 * key + D.length)) 93 37 = nI (z_ato D) := by rw [z_up_k _ _ _ _ (by omega), r793 37 (by omega)]; exact x4.2.1
        rw [x1]
        unfold f_X10_text_J33
        rw [← hM7, z_ml, if_neg (show ¬ (1 : Int32) = 0 by decide), e6, r94, m6, if_neg (show ¬ nI (s 6) = (14 : Int32) from z_neI (b := 14) full (by omega) (by omega)), z_ml, i1, i2, z_ib (by omega) (by omega), if_pos rfl, nI_clamp (by omega), nI_clamp (by omega), v1, z_ml, z_ib (by omega) (by omega), if_pos rfl, v2, z_ml, ← hM8]
        exact g1
      · -- what is kept
        have key94 : ∀ j, j ≠ 158 + 2 * s 6 → j ≠ 159 + 2 * s 6 → M8 94 j = bw_alloc M1 94 j := fun j j1 j2 => by rw [hM8, z_up_i _ _ _ _ j2, z_up_i _ _ _ _ j1, r94]
        have hLE2 : z_LE (bw_alloc M1) M2 := by
          intro q
          obtain ⟨p1, p2, p3⟩ := x2.1.2.2.2.2.2 q
          refine ⟨?_, ?_, ?_⟩
          · rw [rk _ (by omega) (by omega), p1, cr _ (by omega) (by omega) (by omega)]
          · rw [rk _ (by omega) (by omega), p2, cr _ (by omega) (by omega) (by omega)]
          · rw [rk _ (by omega) (by omega), p3, cr _ (by omega) (by omega) (by omega)]
        have hmax : bw_max 1 (M1 14 3) = nI (max 1 (z_ato D)) := by
          rw [r7]
          unfold bw_max
          by_cases q : 1 < z_ato D
          · rw [if_pos (show (1 : Int32) < nI (z_ato D) from nI_lt (a := 1) q (by omega)), Nat.max_eq_right (by omega)]
          · rw [if_neg (show ¬ (1 : Int32) < nI (z_ato D) from nI_nlt (a := 1) (by omega) (by omega)), Nat.max_eq_left (by omega)]
            rfl
        have hlawA : z_Law (bw_alloc M1) (c + 1, key, D) := by
          have eN : z_lcN (c + 1) = 129 + 3 * c := by unfold z_lcN; omega
          unfold z_Law
          dsimp only
          rw [eN]
          refine ⟨by rw [a4]; exact r5, by rw [a5]; exact r7, by rw [a6]; exact r6, by rw [a7]; exact hmax, fun k hk => ?_⟩
          rw [a8 k (by omega) (by rw [r6, nI_clamp (by omega)]; exact hk)]
          exact r8 k hk
        have hStk : ∃ s' u', z_Stk M2 25 94 s' u' := by
          refine ⟨_, _, tx_StkN (v := (c + 1, key, D)) hSA hs ?_ ?_ ?_ ?_ ?_ hLE2 g2 ?_ ?_ (fun j hj => g3 j (Nat.zero_le _) hj) ?_ ⟨(show 1 ≤ c + 1 by omega), (show c + 1 ≤ 512 by omega), hk, Nat.le_of_lt hD, htw⟩ (z_Law_fr hLE2 hlawA)⟩
          · intro j hj
            rw [xk 25 (by unfold z_pr; omega) (by omega), hMc, z_up_i _ _ _ _ hj, z_up_k _ _ _ _ (by omega), z_up_k _ _ _ _ (by omega)]
          · rw [xk 25 (by unfold z_pr; omega) (by omega), hMc, z_up_s]
          · intro j hj
            rw [xk 32 (by unfold z_pr; omega) (by omega), hMc, z_up_k _ _ _ _ (by omega), z_up_i _ _ _ _ hj, z_up_k _ _ _ _ (by omega)]
          · rw [xk 32 (by unfold z_pr; omega) (by omega), hMc, z_up_k _ _ _ _ (by omega), z_up_s]
          · intro k k1 k2 k3
            rw [xk k (by unfold z_pr; omega) (by omega), cr k (by omega) (by omega) k3]
          · rw [g4 _ (by omega) (by omega), hM8, z_up_i _ _ _ _ (by omega), z_up_s]
          · rw [g4 _ (by omega) (by omega), hM8, z_up_s]
          · intro j j1 j2 j3 j4
            dsimp only at j4
            rw [g4 j j1 (by omega)]
            exact key94 j j2 j3
        -- all but the stock
        have hIE := tx_InvE hIA
        obtain ⟨E, hE⟩ : ∃ E, E = bw_up (bw_up (bw_alloc M1) 16 1 0) 93 26 0 := ⟨_, rfl⟩
        rw [← hE] at hIE
        have eE : ∀ k, k ≠ 16 → k ≠ 93 → E k = bw_alloc M1 k := fun k k1 k2 => by rw [hE, z_up_k _ _ _ _ k2, z_up_k _ _ _ _ k1]
        have eE93 : ∀ j, j ≠ 26 → E 93 j = bw_alloc M1 93 j := fun j hj => by rw [hE, z_up_i _ _ _ _ hj, z_up_k _ _ _ _ (by omega)]
        obtain ⟨Y, hY⟩ : ∃ Y : Mem, Y = fun k => if (25 ≤ k ∧ k ≤ 44) ∨ k = 94 then E k else M2 k := ⟨_, rfl⟩
        have y1 : ∀ k, (25 ≤ k ∧ k ≤ 44) ∨ k = 94 → Y k = E k := fun k q => by rw [hY]; exact if_pos q
        have y2 : ∀ k, ¬ ((25 ≤ k ∧ k ≤ 44) ∨ k = 94) → Y k = M2 k := fun k q => by rw [hY]; exact if_neg q
        have hFR : tx_FR E Y := by
          refine ⟨⟨fun k hk => ?_, ?_, ?_, ?_, ?_, fun q => ⟨?_, ?_, ?_⟩⟩, ?_, ?_, ?_, ?_⟩
          · by_cases q : (25 ≤ k ∧ k ≤ 44) ∨ k = 94
            · exact y1 k q
            · unfold z_pr at hk
              rw [y2 k q, xk k (by unfold z_pr; omega) (by omega), cr k (by omega) (by omega) (by omega), eE k (by omega) (by omega)]
          · rw [y2 16 (by omega), rk 16 (by omega) (by omega), x2.1.2.1, hMc, z_up_k _ _ _ _ (by omega), z_up_k _ _ _ _ (by omega), z_up_s, hE, z_up_k _ _ _ _ (by omega), z_up_s]
          · rw [y2 93 (by omega), r93 3 (by omega), x2.1.2.2.1, cr 93 (by omega) (by omega) (by omega), eE93 3 (by omega)]
          · rw [y2 93 (by omega), r9326, hE, z_up_s]
          · rw [y2 93 (by omega), r93 54 (by omega), x2.1.2.2.2.2.1, cr 93 (by omega) (by omega) (by omega), eE93 54 (by omega)]
          · rw [y2 _ (by omega), (hLE2 q).1, eE _ (by omega) (by omega)]
          · rw [y2 _ (by omega), (hLE2 q).2.1, eE _ (by omega) (by omega)]
          · rw [y2 _ (by omega), (hLE2 q).2.2, eE _ (by omega) (by omega)]
          · rw [y2 1 (by omega), rk 1 (by omega) (by omega), x2.2.1, cr 1 (by omega) (by omega) (by omega), eE 1 (by omega) (by omega)]
          · rw [y2 11 (by omega), rk 11 (by omega) (by omega), x2.2.2.1, cr 11 (by omega) (by omega) (by omega), eE 11 (by omega) (by omega)]
          · rw [y2 102 (by omega), rk 102 (by omega) (by omega), x2.2.2.2.1, cr 102 (by omega) (by omega) (by omega), eE 102 (by omega) (by omega)]
          · rw [y2 93 (by omega), r93 13 (by omega), x2.2.2.2.2, cr 93 (by omega) (by omega) (by omega), eE93 13 (by omega)]
        have hIY := tx_InvF hFR hIE
        have hY0 : Y 0 1000 = nI (c + 1) := by rw [hFR.1.1 0 (by unfold z_pr; omega), eE 0 (by omega) (by omega)]; exact a3
        refine tx_InvS hIY (fun k hk => (y2 k (by omega)).symm) hStk (fun i hi => ?_)
        by_cases q : i = s 6
        · subst q
          exact ⟨c + 1, by rw [hY0, nI_clamp (by omega)]; exact Nat.le_refl _, by rw [xk 32 (by unfold z_pr; omega) (by omega), hMc, z_up_k _ _ _ _ (by omega), z_up_s]⟩
        · obtain ⟨j, j1, j2⟩ := (hc4 i hi).1
          rw [hc3, nI_clamp (by omega)] at j1
          refine ⟨j, by rw [hY0, nI_clamp (by omega)]; omega, ?_⟩
          rw [xk 32 (by unfold z_pr; omega) (by omega), hMc, z_up_k _ _ _ _ (by omega), z_up_i _ _ _ _ q, z_up_k _ _ _ _ (by omega), aM 32 (by omega) (by omega)]
          exact j2
