/-! level 2: check -/
theorem z_cpAll2 {a0 a1 : Nat} {M : Mem} (h : a0 ≠ a1) : ∃ M', f_X10_copyAll M a0 a1 = some M' ∧ (∀ j, M' a1 j = if j < 1530 then M a0 j else M a1 j) ∧ ∀ b, b ≠ a1 → M' b = M b := by
  obtain ⟨M', e1, e2, e3⟩ := z_cAll h 1530 0 bw_fu M (by omega) (by decide)
  refine ⟨M', ?_, ?_, e3⟩
  · unfold f_X10_copyAll; rw [l_0, e1]
  · intro j
    rw [e2 j]
    by_cases g : j < 1530
    · rw [if_pos (by omega), if_pos g]
    · rw [if_neg (by omega), if_neg g]
theorem z_Stk_R {M M' : Mem} {S R R1 : Nat} {s : Nat → Nat} {u : Nat → TU} (hS : z_Stk M S R1 s u) (hR : ∀ j, j < 1530 → M' R j = M R1 j) (hk : ∀ k, S ≤ k → k < S + 20 → M' k = M k) (hL : z_LE M M') : z_Stk M' S R s u := by
  have h1 := z_Stk_fr (M' := fun b => if b = R1 then M R1 else M' b) (R := R1) (by simp) (by
    intro k g1 g2
    by_cases e : k = R1
    · simp [e]
    · simp only [e, if_false]; exact hk k g1 g2) (by
    intro c
    refine ⟨?_, ?_, ?_⟩
    · by_cases e : 129 + 3 * c = R1
      · simp [e]
      · simp only [e, if_false]; exact (hL c).1
    · by_cases e : 130 + 3 * c = R1
      · simp [e]
      · simp only [e, if_false]; exact (hL c).2.1
    · by_cases e : 131 + 3 * c = R1
      · simp [e]
      · simp only [e, if_false]; exact (hL c).2.2) hS
  clear h1
  obtain ⟨hW, hM, hz, c1, c2, c3, c4, hT⟩ := hS
  have w2 : s 5 ≤ 12 := hW.1.2.1
  have w3 : s 6 ≤ 14 := hW.1.2.2.1
  have e0 : M' S = M S := hk S (by omega) (by omega)
  refine ⟨hW, ?_, ?_, ?_, ?_, ?_, ?_, ?_⟩
  · intro i a1 a2; rw [hR i (by omega)]; exact hM i a1 a2
  · rw [e0, hR 0 (by omega)]; exact hz
  · unfold z_CN; rw [e0]; exact c1
  · unfold z_CB; rw [hk (S + 1) (by omega) (by omega), hk (S + 2) (by omega) (by omega), hk (S + 3) (by omega) (by omega), hk (S + 4) (by omega) (by omega)]; exact c2
  · intro i hi; rw [hk (S + 8 + i) (by omega) (by omega)]; exact c3 i hi
  · unfold z_CA; rw [hk (S + 6) (by omega) (by omega)]; exact c4
  · intro t ht
    obtain ⟨g1, g2, g3, g4, g5, g6⟩ := hT t ht
    have := g2.2.2.2.1
    refine ⟨by rw [hk (S + 7) (by omega) (by omega)]; exact g1, g2, z_Law_fr hL g3, ?_, ?_, ?_⟩
    · rw [hR _ (by omega)]; exact g4
    · rw [hR _ (by omega)]; exact g5
    · intro k hk; rw [hR _ (by omega)]; exact g6 k hk
theorem z_Inv_w0 {n : Nat} {M : Mem} (hI : Inv n M) : Inv n (bw_up (bw_up M 0 10 0) 93 54 0) := by
  obtain ⟨⟨s, u, hS⟩, b, c, d, e, f, g, i, h⟩ := hI
  obtain ⟨Mx, hMx⟩ : ∃ Mx, Mx = bw_up (bw_up M 0 10 0) 93 54 0 := ⟨_, rfl⟩
  rw [← hMx]
  have fr : ∀ k, k ≠ 0 → k ≠ 93 → Mx k = M k := by intro k g1 g2; rw [hMx, z_up_k _ _ _ _ g2, z_up_k _ _ _ _ g1]
  have f0 : ∀ k, k ≠ 10 → Mx 0 k = M 0 k := by intro k h1; rw [hMx, z_up_k _ _ _ _ (by omega), z_up_i _ _ _ _ h1]
  have f93 : ∀ k, k ≠ 54 → Mx 93 k = M 93 k := by intro k h1; rw [hMx, z_up_i _ _ _ _ h1, z_up_k _ _ _ _ (by omega)]
  have hLE : z_LE M Mx := fun c => ⟨fr _ (by omega) (by omega), fr _ (by omega) (by omega), by rw [fr _ (by omega) (by omega)]⟩
  exact ⟨⟨s, u, z_Stk_fr (fr _ (by omega) (by omega)) (fun k h1 h2 => fr k (by omega) (by omega)) hLE hS⟩, z_Img_fr (f0 _ (by omega)) (f93 _ (by omega)) (fr _ (by omega) (by omega)) (fun k h1 h2 => fr k (by omega) (by omega)) hLE b, z_Tap_fr (by rw [fr _ (by omega) (by omega)]) (f93 _ (by omega)) (fr _ (by omega) (by omega)) (fr _ (by omega) (by omega)) c, z_Key_fr (fr _ (by omega) (by omega)) (fr _ (by omega) (by omega)) d, z_Sht_fr (fun k h1 h2 => fr k (by omega) (by omega)) (fr _ (by omega) (by omega)) (fr _ (by omega) (by omega)) (fr _ (by omega) (by omega)) e, z_Slt_fr (fun k h1 h2 => fr k (by omega) (by omega)) (fr _ (by omega) (by omega)) (fr _ (by omega) (by omega)) (fr _ (by omega) (by omega)) (fr _ (by omega) (by omega)) f, ⟨0, by omega, by rw [hMx, z_up_k _ _ _ _ (by omega), z_up_s]; rfl, by rw [hMx, z_up_s]; rfl, fun i hi => by omega⟩, z_Ask_fr (f93 _ (by omega)) (fr _ (by omega) (by omega)) i, z_Lws_fr (f0 _ (by omega)) (fr _ (by omega) (by omega)) (fr _ (by omega) (by omega)) (by rw [fr _ (by omega) (by omega)]) (by rw [fr _ (by omega) (by omega)]) h⟩
set_option maxHeartbeats 4000000 in
theorem op_check : Op_check Inv := by
  intro n M a hn hI
  have hfu : 100 < bw_fu := by decide
  have hIx := z_Inv_w0 hI
  obtain ⟨w, hw, t1, t2, t3⟩ := hI.2.2.2.2.2.2.1
  obtain ⟨i1, i2⟩ := hI.2.1
  obtain ⟨Ma, hMa⟩ : ∃ Ma, Ma = bw_up M 0 10 0 := ⟨_, rfl⟩
  have fa : ∀ k, k ≠ 0 → Ma k = M k := by intro k g1; rw [hMa, z_up_k _ _ _ _ g1]
  have fa0 : ∀ k, k ≠ 10 → Ma 0 k = M 0 k := by intro k g1; rw [hMa, z_up_i _ _ _ _ g1]
  rw [← hMa] at hIx
  have bad : ∀ r, f_X9_check M a = some (r, Ma) → f_X10_check Ma a = some (r, bw_up Ma 93 54 0) → ∃ (r : Int32) (M1 M2 : Mem), (f_X9_check M a = some (r, M1)) ∧ (f_X10_check M1 a = some (r, M2)) ∧ Inv (n + 1) M2 :=
    fun r h1 h2 => ⟨r, Ma, _, h1, h2, z_nochange hIx⟩
  rcases z_wi a 1 30 (by omega) (by omega) with o | ⟨o, k, k1, k2, rfl⟩
  · rw [← l_1, ← l_30] at o
    refine bad (-1000000001) ?_ ?_
    · unfold f_X9_check; rw [z_ml, ← hMa, if_pos o]
    · unfold f_X10_check; rw [z_ml, z_in, if_pos o]
  · rw [← l_1, ← l_30] at o
    rcases i2 with i2 | ⟨i2, s, u, hS⟩
    · refine bad (-1000000002) ?_ ?_
      · unfold f_X9_check; rw [z_ml, ← hMa, o, if_neg (by decide), fa0 2 (by omega), if_pos i2]
      · unfold f_X10_check; rw [z_ml, z_in, o, if_neg (by decide), z_up_i _ _ _ _ (by omega), fa 93 (by omega), ← i1, if_pos i2]
    · have n02 : ¬ M 0 2 = 0 := by rw [i2]; decide
      have hW := hS.1
      have w1 : s 4 ≤ 24 := hW.1.1
      have hLEa : z_LE M Ma := fun c => ⟨fa _ (by omega), fa _ (by omega), by rw [fa _ (by omega)]⟩
      have hSa : z_Stk Ma 45 95 s u := z_Stk_fr (fa 95 (by omega)) (fun k g1 g2 => fa k (by omega)) hLEa hS
      have hLa : z_Lws n Ma := z_Lws_fr (fa0 _ (by omega)) (fa _ (by omega)) (fa _ (by omega)) (by rw [fa _ (by omega)]) (by rw [fa _ (by omega)]) (z_32L hI)
      obtain ⟨T, hT⟩ : ∃ T, T = z_out (s 4) (s 1) (z_sH s) (z_sT s) (z_sD s) (z_sf (z_sA s) (s 7)) (z_P (z_lw 0 u (s 6)) (s 2)) (s 4) := ⟨_, rfl⟩
      obtain ⟨Sl, hSl⟩ : ∃ Sl, Sl = z_st T.2 (s 4) (s 4 + 1) 0 := ⟨_, rfl⟩
      obtain ⟨Ml, M1, e1, e2, e3, e4, e5, e6, e7⟩ := z_cYB (n := n) hSa (by omega) (by omega) (by omega) hLa (fun t ht => (hLa.2.1 t ht).2) hT hSl
      have hbd := z_BdS hW
      have TB : ∀ q, T.1 0 = some q → q < 2 ^ 31 := by
        intro q hq
        have := z_outB (s 4) (s 1) (z_sH s) (z_sT s) (z_sD s) (z_sf (z_sA s) (s 7)) (z_P (z_lw 0 u (s 6)) (s 2)) (fun a b ha => z_P_le hbd.2.2.1 ha) (fun a ha => z_sf_le (fun k hk => (hbd.2.2.2.2.2 k hk).2) ha) (fun j hj => (hbd.2.2.2.2.1 j hj).2.1) (s 4) (by omega) 0 q (by rw [← hT]; exact hq)
        omega
      obtain ⟨-, -, lk3⟩ := z_lawOf (k := 2) hSa (by omega) hLa (fun t ht => (hLa.2.1 t ht).2)
      -- the model's part, over whatever the class left
      have md : ∀ M3 : Mem, z_Cf Ma M3 → z_Lok Ma (M3 1 7) → z_Lok Ma (M3 11 3) → ∃ Mc1 Mc2 M4, f_X10_copyAll (bw_up M3 93 54 0) 94 96 = some Mc1 ∧ f_X10_copyAll Mc1 95 94 = some Mc2 ∧ f_X10_beginsYears Mc2 = some M4 ∧ M4 93 16 = z_oI (T.1 0) ∧ (T.1 0 = none → M4 93 17 = 0) ∧ (T.1 0 ≠ none → M4 93 17 = nI Sl.length) ∧ (∀ ln : Nat → Nat, T.1 0 ≠ none → (∀ b, b < s 4 → ln b < Sl.length ∧ Sl.getD (ln b) (s 4) ≤ b ∧ b < Sl.getD (ln b + 1) (s 4)) → z_MY Sl.length (s 4) ln (z_lw 2 u (s 6)) s (fun k => nI (z_ts (z_sT s) (Sl.getD k (s 4)) (Sl.getD (k + 1) (s 4) - Sl.getD k (s 4)))) M4) ∧ (∀ i, i < w → M4 128 i = M 128 i) ∧ ∀ M5 : Mem, z_Mf M4 M5 → M5 93 = M4 93 → M5 96 = M4 96 → M5 102 = M4 102 → ∃ M6, f_X10_copyAll M5 96 94 = some M6 ∧ Inv (n + 1) M6 := by
        intro M3 h3 l7 l3
        obtain ⟨Mx, hMx⟩ : ∃ Mx, Mx = bw_up M3 93 54 0 := ⟨_, rfl⟩
        have fx : ∀ b, b ≠ 93 → Mx b = M3 b := by intro b hb; rw [hMx, z_up_k _ _ _ _ hb]
        obtain ⟨Mc1, c1, c2, c3⟩ := z_cpAll2 (a0 := 94) (a1 := 96) (M := Mx) (by omega)
        obtain ⟨Mc2, d1, d2, d3⟩ := z_cpAll2 (a0 := 95) (a1 := 94) (M := Mc1) (by omega)
        have r : ∀ b, b ≠ 94 → b ≠ 96 → Mc2 b = Mx b := by intro b g1 g2; rw [d3 b g1, c3 b g2]
        have rM : ∀ b, b = 0 ∨ (14 ≤ b ∧ b ≤ 20) ∨ (25 ≤ b ∧ b ≤ 128 ∧ b ≠ 93) → Mx b = Ma b := by intro b hb; rw [fx b (by omega), h3.1 b (by omega)]
        have stc : z_Stk Mc2 45 94 s u := z_Stk_R hSa (by intro j hj; rw [d2 j, if_pos hj, c3 95 (by omega), rM 95 (by omega)]) (by intro k g1 g2; rw [r k (by omega) (by omega), rM k (by omega)]) (by
          intro c
          rw [r _ (by omega) (by omega), r _ (by omega) (by omega), r _ (by omega) (by omega), fx _ (by omega), fx _ (by omega), fx _ (by omega)]
          exact h3.2 c)
        have ask : z_Ask n Mc2 := by
          refine z_Ask_fr ?_ ?_ hIx.2.2.2.2.2.2.2.1
          · rw [r 93 (by omega) (by omega), hMx, z_up_i _ _ _ _ (by omega), z_up_i _ _ _ _ (by omega), h3.1 93 (by omega)]
          · rw [r 102 (by omega) (by omega), rM 102 (by omega), z_up_k _ _ _ _ (by omega)]
        obtain ⟨M4, g1, g2, g3, g4, g5, g6, g7, g8⟩ := z_mYB (n := n) (S := 45) hn (by omega) hW stc.2.1 stc.2.2.2.2.2.2.2 ask (fun v hv => (lk3 v hv).2) hT hSl
        rw [← hMx]
        refine ⟨Mc1, Mc2, M4, c1, d1, g1, g5, g6, g7, g8, ?_, ?_⟩
        · intro i hi; rw [g2.1 128 (by omega), r 128 (by omega) (by omega), rM 128 (by omega), fa 128 (by omega)]
        · intro M5 q1 q2 q3 q4
          obtain ⟨M6, j1, j2, j3⟩ := z_cpAll2 (a0 := 96) (a1 := 94) (M := M5) (by omega)
          refine ⟨M6, j1, ?_⟩
          have row94 : M6 94 = Mx 94 := by
            funext i
            rw [j2 i]
            by_cases gi : i < 1530
            · rw [if_pos gi, q3, g4, d3 96 (by omega), c2 i, if_pos gi]
            · rw [if_neg gi, q1.1 94 (by omega), g2.1 94 (by omega), d2 i, if_neg gi, c3 94 (by omega)]
          have mm : z_Mf Mx M6 := by
            refine ⟨?_, ?_, ?_, ?_⟩
            · intro b hb
              by_cases e : b = 94
              · rw [e]; exact row94
              · rw [j3 b e, q1.1 b hb, g2.1 b hb, r b e (by omega)]
            · rw [j3 93 (by omega), q1.2.1, g2.2.1, r 93 (by omega) (by omega)]
            · rw [j3 93 (by omega), q1.2.2.1, g2.2.2.1, r 93 (by omega) (by omega)]
            · rw [j3 93 (by omega), q1.2.2.2, g2.2.2.2, r 93 (by omega) (by omega)]
          have cx : z_Cf (bw_up Ma 93 54 0) Mx := by
            refine ⟨?_, ?_⟩
            · intro b hb
              by_cases e : b = 93
              · subst e
                funext i
                rw [hMx, z_up, z_up, h3.1 93 (by omega)]
              · rw [fx b e, z_up_k _ _ _ _ e, h3.1 b (by omega)]
            · intro c
              rw [fx _ (by omega), fx _ (by omega), fx _ (by omega), z_up_k _ _ _ _ (by omega), z_up_k _ _ _ _ (by omega), z_up_k _ _ _ _ (by omega)]
              exact h3.2 c
          refine z_fin hIx cx ?_ ?_ mm (z_Ask_fr (by rw [j3 93 (by omega), q2]) (by rw [j3 102 (by omega), q4]) g3)
          · unfold z_Lok at l7 ⊢; rw [fx 1 (by omega), z_up_k _ _ _ _ (by omega)]; exact l7
          · unfold z_Lok at l3 ⊢; rw [fx 11 (by omega), z_up_k _ _ _ _ (by omega)]; exact l3
      have mh : ∀ M3 : Mem, z_Cf Ma M3 → ¬ (bw_up M3 93 54 0) 93 3 = 0 := by
        intro M3 h3
        rw [z_up_i _ _ _ _ (by omega), h3.1 93 (by omega), fa 93 (by omega), ← i1]; exact n02
      have v2 : ∀ M3 : Mem, z_Cf Ma M3 → M3 93 54 = nI w := by
        intro M3 h3; rw [h3.1 93 (by omega), fa 93 (by omega)]; exact t2
      have none' : (T.1 0 = none ∨ Sl.length = 0) → ∃ (r : Int32) (M1 M2 : Mem), (f_X9_check M (nI k) = some (r, M1)) ∧ (f_X10_check M1 (nI k) = some (r, M2)) ∧ Inv (n + 1) M2 := by
        intro hno
        obtain ⟨Mc1, Mc2, M4, g1, g2, g3, g4, g5, g6, g7, g8, g9⟩ := md M1 e3 e4 e5
        obtain ⟨M6, j1, j2⟩ := g9 M4 (z_Mf_r M4) rfl rfl rfl
        refine ⟨-1000000002, M1, M6, ?_, ?_, j2⟩
        · unfold f_X9_check
          rw [z_ml, ← hMa, o, if_neg (by decide), fa0 2 (by omega), if_neg n02, e1, Option.bind_some, e2, Option.bind_some]
          by_cases nn : T.1 0 = none
          · rw [if_pos (show ((if T.1 0 = none then (0 : Int32) else 1), M1).1 = 0 by rw [if_pos nn])]
          · have l0 : Sl.length = 0 := by rcases hno with h | h; exact absurd h nn; exact h
            rw [if_neg (show ¬ ((if T.1 0 = none then (0 : Int32) else 1), M1).1 = 0 by rw [if_neg nn]; exact (by decide : ¬ (1 : Int32) = 0))]
            have z14 : M1 1 14 = 0 := by rw [e6 nn, l0]; rfl
            rw [if_pos (show ((if T.1 0 = none then (0 : Int32) else 1), M1).2 1 14 = 0 from z14)]
        · unfold f_X10_check f_X10_check_J78 f_X10_check_J93
          have m0 : (if M4 93 16 < 0 then (0 : Int32) else if M4 93 17 ≤ 0 then 0 else 1) = 0 := by
            by_cases nn : T.1 0 = none
            · rw [if_pos (by rw [g4, nn]; decide)]
            · have l0 : Sl.length = 0 := by rcases hno with h | h; exact absurd h nn; exact h
              split
              · rfl
              · rw [if_pos (by rw [g6 nn, l0]; decide)]
          rw [z_ml, z_in, o, if_neg (by decide), if_neg (mh M1 e3), g1, Option.bind_some, g2, Option.bind_some, g3, Option.bind_some, m0, if_pos rfl, j1, Option.bind_some, if_pos rfl]
      by_cases nn : T.1 0 = none
      · exact none' (Or.inl nn)
      · by_cases l0 : Sl.length = 0
        · exact none' (Or.inr l0)
        · obtain ⟨hl, -⟩ := z_LnI hT hSl nn
          have sl := hl.1
          obtain ⟨ln, hln⟩ := z_lnX hl
          obtain ⟨Mb, b1, b2, b3, b4, b5, b6⟩ := e7 ln nn hln
          obtain ⟨M3, c1, c2, c3⟩ := z_cRt (many := w) (wt := fun i => M 128 i) (by omega) (by omega) (fun p b hb => (hln b (z_lb_lt _ _ hb)).1) k2 hw k 1 0 bw_fu Mb _ (by omega) (by omega) b2 (by intro i hi; rw [b3.1 20 (by omega), fa 20 (by omega)]; exact t3 i hi) (by omega)
          have cf3 : z_Cf Ma M3 := z_Cf_t b3 c2
          obtain ⟨Mc1, Mc2, M4, g1, g2, g3, g4, g5, g6, g7, g8, g9⟩ := md M3 cf3 (by rw [c3 1 (by omega) (by omega) (by omega)]; exact b4) (by rw [c3 11 (by omega) (by omega) (by omega)]; exact b5)
          obtain ⟨M5, f1, f2, f3, f4, f5⟩ := z_mRt (many := w) (wt := fun i => M 128 i) (m := s 4) (by omega) (by omega) w1 (fun i hi => (hW.2.1 i hi).2.2.2.2.1) (fun b hb => (hln b hb).1) k2 hw k 1 0 bw_fu M4 _ (by omega) (by omega) (by omega) (by omega) (g7 ln nn hln) g8
          obtain ⟨M6, j1, j2⟩ := g9 M5 f2 f3 f4 f5
          generalize z_rS (fun i => M 128 i) w (z_lw 2 u (s 6)) (fun p => z_lb s p (s 4)) ln Sl.length k 1 0 (fun k => nI (z_ts (z_sT s) (Sl.getD k (s 4)) (Sl.getD (k + 1) (s 4) - Sl.getD k (s 4)))) = rr at *
          rw [show nI 0 = 0 from rfl, show nI 1 = 1 from rfl] at c1 f1
          refine ⟨if nI rr = 2 * nI k then (if nI rr = nI w then 0 else 1 + nI rr) else 1 + nI rr, M3, M6, ?_, ?_, j2⟩
          · unfold f_X9_check f_X9_rightOnes
            rw [z_ml, ← hMa, o, if_neg (by decide), fa0 2 (by omega), if_neg n02, e1, Option.bind_some, e2, Option.bind_some]
            rw [if_neg (show ¬ ((if T.1 0 = none then (0 : Int32) else 1), M1).1 = 0 by rw [if_neg nn]; exact (by decide : ¬ (1 : Int32) = 0))]
            have z14 : ¬ M1 1 14 = 0 := by rw [e6 nn]; exact nI_ne0 (by omega) (by omega)
            rw [if_neg (show ¬ ((if T.1 0 = none then (0 : Int32) else 1), M1).2 1 14 = 0 from z14), t1, b1, Option.bind_some, c1, Option.bind_some]
          · unfold f_X10_check f_X10_check_J78 f_X10_check_J93 f_X10_rightYears
            have m1 : (if M4 93 16 < 0 then (0 : Int32) else if M4 93 17 ≤ 0 then 0 else 1) = 1 := by
              obtain ⟨q, hq⟩ : ∃ q, T.1 0 = some q := by
                cases e : T.1 0 with
                | none => exact absurd e nn
                | some q => exact ⟨q, rfl⟩
              rw [if_neg (by rw [g4, hq]; exact nI_pos (TB q hq)), if_neg (by rw [g6 nn]; exact nI_nle (by omega) (by omega))]
            rw [z_ml, z_in, o, if_neg (by decide), if_neg (mh M3 cf3), g1, Option.bind_some, g2, Option.bind_some, g3, Option.bind_some, m1, if_neg (by decide), v2 M3 cf3, f1, Option.bind_some, j1, Option.bind_some, if_neg (by decide)]
            by_cases x1 : nI rr = 2 * nI k
            · by_cases x2 : nI rr = nI w
              · rw [if_pos x2, if_pos x1, if_pos x1, if_pos x2]
              · rw [if_neg x2, if_pos x1, if_neg x2]
            · by_cases x2 : nI rr = nI w
              · rw [if_pos x2, if_neg x1, if_neg x1]
              · rw [if_neg x2, if_neg x1]
