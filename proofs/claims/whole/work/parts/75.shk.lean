/-! level 2: shift -/
set_option maxHeartbeats 4000000 in
theorem op_shift : Op_shift Inv := by
  intro n M a b hn hI
  have hI' := hI
  obtain ⟨⟨s, u, hS⟩, -⟩ := hI'
  have hS' := hS
  obtain ⟨hW, hM, hz, c1, c2, c3, c4, hT⟩ := hS
  obtain ⟨w1, w2, w3, w4, w5, w6, w7, w8, w9⟩ := hW.1
  obtain ⟨d1, d2, d3, d4, d5, d6, d7⟩ := c1
  have m4 : M 94 4 = nI (s 4) := hM 4 (by omega) (by omega)
  have m5 : M 94 5 = nI (s 5) := hM 5 (by omega) (by omega)
  have m6 : M 94 6 = nI (s 6) := hM 6 (by omega) (by omega)
  have m7 : M 94 7 = nI (s 7) := hM 7 (by omega) (by omega)
  have hfu : 100 < bw_fu := by decide
  have hL := z_32L hI
  have bad : ∀ r, f_X9_shift M a b = some (r, M) → f_X10_shift M a b = some (r, M) → ∃ (r : Int32) (M1 M2 : Mem), (f_X9_shift M a b = some (r, M1)) ∧ (f_X10_shift M1 a b = some (r, M2)) ∧ Inv (n + 1) M2 :=
    fun r h1 h2 => ⟨r, M, M, h1, h2, z_nochange hI⟩
  rcases z_wi a 0 (s 4) (by omega) (by omega) with o | ⟨o, p, -, hp, rfl⟩
  · rw [← l_0] at o
    exact bad (-1000000001) (by unfold f_X9_shift; rw [d1, if_pos o]) (by unfold f_X10_shift; rw [z_in, z_c4, m4, if_pos o])
  · rw [← l_0] at o
    rcases z_size b with ⟨x1, x2⟩ | ⟨x1, x2, H, Th, y1, y2, y3, y4, y5, y6⟩
    · exact bad (-1000000001) (by unfold f_X9_shift; rw [d1, o, if_neg (by decide), if_pos x1]) (by unfold f_X10_shift; rw [z_in, z_c4, m4, o, if_neg (by decide), if_pos x2])
    · by_cases hm : s 4 < 24
      · have hbd := z_BdS hW
        have hbd' := z_iBd (p := p) (H := H) (T := Th) hm hp y1 y2 y4 hbd
        obtain ⟨T, hT⟩ : ∃ T, T = z_out (s 4) (s 1) (z_sH s) (z_sT s) (z_sD s) (z_sf (z_sA s) (s 7)) (z_P (z_lw 0 u (s 6)) (s 2)) (s 4) := ⟨_, rfl⟩
        obtain ⟨Sl, hSl⟩ : ∃ Sl, Sl = z_st T.2 (s 4) (s 4 + 1) 0 := ⟨_, rfl⟩
        obtain ⟨T', hT'⟩ : ∃ T', T' = z_out (s 4 + 1) (s 1) (z_iH (z_sH s) p H) (z_iH (z_sT s) p Th) (z_iD (z_sD s) p) (z_sf (z_sA s) (s 7)) (z_P (z_lw 0 u (s 6)) (s 2)) (s 4 + 1) := ⟨_, rfl⟩
        obtain ⟨Sl', hSl'⟩ : ∃ Sl', Sl' = z_st T'.2 (s 4 + 1) (s 4 + 1 + 1) 0 := ⟨_, rfl⟩
        have TB : ∀ q, T'.1 0 = some q → q < 2 ^ 31 := by
          intro q hq
          have := z_outB (s 4 + 1) (s 1) (z_iH (z_sH s) p H) (z_iH (z_sT s) p Th) (z_iD (z_sD s) p) (z_sf (z_sA s) (s 7)) (z_P (z_lw 0 u (s 6)) (s 2)) (fun a b ha => z_P_le hbd.2.2.1 ha) (fun a ha => z_sf_le (fun k hk => (hbd.2.2.2.2.2 k hk).2) ha) (fun j hj => (hbd'.2.2.2.2.1 j hj).2.1) (s 4 + 1) (by omega) 0 q (by rw [← hT']; exact hq)
          omega
        obtain ⟨hq, ⟨Ml, M1, e1, e2, e3, e4, e5, e6, e7, e8⟩, hmd⟩ := z_both hn hI hS' hT hSl
        have m11 : M1 11 = M 11 := e8 11 (by omega) (by omega)
        -- the model, over whatever the class left
        have md : ∀ M3 : Mem, z_Cf M M3 → z_Lok M (M3 1 7) → z_Lok M (M3 11 3) → ∃ M7, Inv (n + 1) M7 ∧ f_X10_shift M3 (nI p) b = (if T.1 0 = none then some (-1000000005, M7) else if T'.1 0 = none then some (-1000000005, M7) else f_X10_shift_L218 M7 (nI p) bw_fu 0 0) ∧ M7 94 4 = nI (s 4) ∧ (T.1 0 ≠ none → ∀ k, k < Sl.length → ∀ b, b < s 4 → Sl.getD k (s 4) ≤ b → b < Sl.getD (k + 1) (s 4) → M7 119 b = nI k) ∧ (T'.1 0 ≠ none → ∀ k, k < Sl'.length → ∀ b, Sl'.getD k (s 4 + 1) ≤ b → b < Sl'.getD (k + 1) (s 4 + 1) → M7 106 b = nI k) := by
          intro M3 h3 l7 l3
          obtain ⟨q0, M4, f0, f1, f2, f3, f4, f5, f6⟩ := hmd M3 h3
          have r94 : M4 94 = M 94 := by rw [f3.1 94 (by omega), h3.1 94 (by omega)]
          have hM4 : z_MR M4 94 s := by intro i a1 a2; rw [r94]; exact hM i a1 a2
          obtain ⟨s0, hs0⟩ : ∃ s0 : Int32, s0 = if M4 93 16 < 0 then 0 else 1 := ⟨_, rfl⟩
          obtain ⟨M5, g1, g2, g3⟩ := z_mWe (m := s 4) (v2 := b) (v3 := s0) (w1 := nI p) (M0 := M4) hm (hM4 4 (by omega) (by omega)) (s 4) 0 bw_fu M4 (by omega) (by omega) rfl rfl (fun j hj => by omega)
          have h95 : (bw_up M5 93 7 0) 94 = M4 94 := by rw [z_up_k _ _ _ _ (by omega), g3 94 (by omega)]
          have ct0 : z_ct (s 4) p 0 = 0 := by unfold z_ct; rw [if_pos (by omega)]
          obtain ⟨M6, j1, j2, j3, j4, j5⟩ := z_mIn1 (m := s 4) (p := p) (H := H) (T := Th) (s := s) (v2 := b) (v3 := s0) (M0 := M4) hm hp rfl hM4 (fun j hj => (hbd.2.2.2.2.1 j hj).2.2.2) y5 y6 (s 4 + 1) 0 bw_fu (bw_up M5 93 7 0) (by omega) (by omega) h95 (by rw [ct0, z_up_s]; rfl) (by rw [ct0]; intro j hj; omega)
          have o6 : ∀ k, k ≠ 93 → k ≠ 97 → k ≠ 98 → k ≠ 99 → k ≠ 119 → M6 k = M4 k := by
            intro k a1 a2 a3 a4 a5; rw [j5 k a1 a2 a3 a4, z_up_k _ _ _ _ a1, g3 k a5]
          have o693 : ∀ x, x ≠ 7 → M6 93 x = M4 93 x := by intro x hx; rw [j4 x hx, z_up_i _ _ _ _ hx, g3 93 (by omega)]
          have mp6 : z_Mp (s 4 + 1) (s 1) (s 2) (s 7) (z_iH (z_sH s) p H) (z_iH (z_sT s) p Th) (z_iD (z_sD s) p) (z_sA s) (z_lw 0 u (s 6)) q0 M6 := by
            obtain ⟨p1, p2, p3, p4, p5, p6, p7, p8, p9⟩ := f2
            have h94 : M6 94 = M4 94 := o6 94 (by omega) (by omega) (by omega) (by omega) (by omega)
            exact ⟨j2, by rw [o693 8 (by omega)]; exact p2, by rw [h94]; exact p3, by rw [o693 10 (by omega)]; exact p4, j3, by rw [o6 100 (by omega) (by omega) (by omega) (by omega) (by omega)]; exact p6, z_MLw_fr h94 p7, ⟨p8.1, by rw [o693 13 (by omega)]; exact p8.2⟩, by rw [o6 101 (by omega) (by omega) (by omega) (by omega) (by omega), o6 102 (by omega) (by omega) (by omega) (by omega) (by omega)]; exact p9⟩
          obtain ⟨Mc, M7, k1, k2, k3, k4, k5, k6, k7, k8, k9⟩ := z_mSe hbd' mp6 hT' hSl'
          have mf6 : z_Mf M4 M6 := ⟨fun k hk => o6 k (by omega) (by omega) (by omega) (by omega) (by omega), o693 _ (by omega), o693 _ (by omega), o693 _ (by omega)⟩
          have mf7 : z_Mf M3 M7 := z_Mf_t f3 (z_Mf_t mf6 k4)
          refine ⟨M7, z_fin hI h3 l7 l3 mf7 (z_AskMp f0 k3), ?_, by rw [mf7.1 94 (by omega), h3.1 94 (by omega)]; exact m4, ?_, fun h => (k6 h).2.2⟩
          · unfold f_X10_shift f_X10_shift_J54
            rw [show nI 0 = 0 from rfl] at g1 j1
            rw [z_in, z_c4, h3.1 94 (by omega), m4, o, if_neg (by decide), x2, if_neg (by decide), if_neg (show ¬ nI (s 4) = 24 from z_neI (b := 24) (by omega) (by omega) (by omega)), f1, Option.bind_some, ← hs0, g1, j1]
            unfold z_shT
            rw [k1, Option.bind_some, z_ml]
            rw [show (bw_up (z_oI (T'.1 0), Mc).2 93 16 (z_oI (T'.1 0), Mc).1) = bw_up Mc 93 16 (z_oI (T'.1 0)) from rfl, k2, Option.bind_some, k5]
            cases hq0 : T.1 0 with
            | none =>
              have : s0 = 0 := by rw [hs0, f4, hq0, if_pos (by decide)]
              rw [if_pos this, if_pos rfl]
            | some q =>
              have qb := hq q hq0
              have : ¬ s0 = 0 := by rw [hs0, f4, hq0, if_neg (show ¬ z_oI (some q) < 0 from nI_pos (by omega))]; decide
              rw [if_neg this, if_neg (show ¬ some q = none by simp)]
              cases hq1 : T'.1 0 with
              | none => rw [if_neg (show ¬ 0 ≤ z_oI none by decide), if_pos rfl]
              | some q' => rw [if_pos (show 0 ≤ z_oI (some q') from nI_pos' (TB q' hq1)), if_neg (show ¬ some q' = none by simp)]
          · intro nn k hk b' hb' a1 a2
            rw [k9 119 (by omega) (by omega) (by omega) (by omega) (by omega) (by omega) (by omega) (by omega) (by omega) (by omega), j5 119 (by omega) (by omega) (by omega) (by omega), z_up_k _ _ _ _ (by omega), g2 b' hb']
            exact (f5 nn).2.2 k hk b' a1 a2
        have C0 : f_X9_shift M (nI p) b = (if (if T.1 0 = none then (0 : Int32) else 1) = 0 then some (-1000000005, M1) else f_X9_shift_L62 (nI p) b bw_fu 0 M1) := by
          unfold f_X9_shift
          rw [d1, o, if_neg (by decide), x1, if_neg (by decide), if_pos (show nI (s 4) < 24 from nI_lt (b := 24) hm (by omega)), e1, Option.bind_some, e2, Option.bind_some]
        by_cases nn : T.1 0 = none
        · obtain ⟨M7, k1, k2, -⟩ := md M1 e4 (z_PlLok e3 e4) (by rw [m11]; exact hL.2.2.2)
          rw [if_pos nn] at k2
          exact ⟨-1000000005, M1, M7, by rw [C0, if_pos (show (if T.1 0 = none then (0 : Int32) else 1) = 0 by rw [if_pos nn])], k2, k1⟩
        · obtain ⟨hl, -⟩ := z_LnI hT hSl nn
          have sl := hl.1
          obtain ⟨ln, hln⟩ := z_lnX hl
          obtain ⟨e6a, e6b⟩ := e6 nn
          have hlo : ∀ M' : Mem, M' 1 = M1 1 → M' 9 = M1 9 → ∀ b, b < s 4 → f_X2_lineOf M' (nI b) = some (nI (ln b)) := by
            intro M' g1 g9 b hb
            obtain ⟨k1, k2, k3⟩ := hln b hb
            have q := z_cLo (M := M') w1 hl (by rw [g1]; exact e6a) (by rw [g9]; exact e6b) (b := b) k1 k2 k3 (ln b) 0 bw_fu (by omega) (by omega)
            rw [← l_0] at q
            exact q
          obtain ⟨Mw, g1, g2, g3⟩ := z_cWe (m := s 4) (ln := ln) (M0 := M1) (w1 := nI p) (w2 := b) hm (by rw [e4.1 25 (by omega)]; exact d1) hlo (s 4) 0 bw_fu M1 (by omega) (by omega) (fun _ _ => rfl) (fun j hj => by omega)
          have cw : z_Cf M1 Mw := z_Cf_b (fun k hk => g3 k (by omega))
          have pw : z_Pl (s 4) (s 1) (s 2) (s 7) (z_sH s) (z_sT s) (z_sD s) (z_sA s) (z_lw 0 u (s 6)) Mw := z_Pl_fr cw (fun x _ => by rw [g3 1 (by omega)]) (fun k a1 a2 => g3 k (by omega)) (by rw [g3 6 (by omega)]; exact e3.2.2.2.2.2.2.2) e3
          obtain ⟨Mi, i1, i2, i3, i4⟩ := z_ins (p := p) (H := H) (T := Th) hm hp (fun j hj => (hbd.2.2.2.2.1 j hj).2.2.2) pw
          obtain ⟨M3, t1, t2, t3, t4, t5, t6, t7⟩ := z_cSe hbd' i2 hT' hSl'
          have c3 : z_Cf M M3 := z_Cf_t e4 (z_Cf_t cw (z_Cf_t i3 t3))
          have m113 : M3 11 = M 11 := by rw [t7 11 (by omega) (by omega) (by omega) (by omega) (by omega) (by omega) (by omega), i4 11 (by omega), g3 11 (by omega), m11]
          obtain ⟨M7, k1, k2, k3, k4, k5⟩ := md M3 c3 (z_PlLok t2 c3) (by rw [m113]; exact hL.2.2.2)
          rw [if_neg nn] at k2
          rw [show nI 0 = 0 from rfl] at g1
          have C1 : f_X9_shift M (nI p) b = (if (if T'.1 0 = none then (0 : Int32) else 1) = 0 then some ((-1000000005 : Int32), M3) else (f_X9_moved M3 (nI p)).bind fun q15 => some (q15, M3)) := by
            rw [C0, if_neg (show ¬ (if T.1 0 = none then (0 : Int32) else 1) = 0 by rw [if_neg nn]; decide), g1, y5, y6, i1, Option.bind_some, t1, Option.bind_some]
          by_cases nn' : T'.1 0 = none
          · rw [if_pos nn'] at k2
            exact ⟨-1000000005, M3, M7, by rw [C1, if_pos (show (if T'.1 0 = none then (0 : Int32) else 1) = 0 by rw [if_pos nn'])], k2, k1⟩
          · rw [if_neg nn'] at k2
            obtain ⟨hl', -⟩ := z_LnI hT' hSl' nn'
            have sl' := hl'.1
            obtain ⟨ln', hln'⟩ := z_lnX hl'
            obtain ⟨t5a, t5b⟩ := t5 nn'
            have cm := z_cMv (m := s 4) (p := p) (ln := ln) (ln' := ln') (M := M3) hm hp (by rw [c3.1 25 (by omega)]; exact d1) (fun b' hb' => ⟨by rw [t7 24 (by omega) (by omega) (by omega) (by omega) (by omega) (by omega) (by omega), i4 24 (by omega)]; exact g2 b' hb', by have := (hln b' hb').1; omega⟩) (fun b' hb' => by
              obtain ⟨a1, a2, a3⟩ := hln' b' hb'
              refine ⟨?_, by omega⟩
              have q := z_cLo (M := M3) (m := s 4 + 1) (by omega) hl' t5a t5b (b := b') a1 a2 a3 (ln' b') 0 bw_fu (by omega) (by omega)
              rw [← l_0] at q
              exact q) (s 4) 0 bw_fu 0 (by omega) (by omega)
            have mm := z_mMv (m := s 4) (p := p) (ln := ln) (ln' := ln') (M := M7) hm hp k3 (fun b' hb' => by
              obtain ⟨a1, a2, a3⟩ := hln b' hb'
              exact ⟨k4 nn (ln b') a1 b' hb' a2 a3, by omega⟩) (fun b' hb' => by
              obtain ⟨a1, a2, a3⟩ := hln' b' hb'
              exact ⟨k5 nn' (ln' b') a1 b' a2 a3, by omega⟩) (s 4) 0 bw_fu 0 (by omega) (by omega)
            rw [show nI 0 = 0 from rfl] at cm mm
            refine ⟨nI (z_mv ln ln' p (s 4) 0 0), M3, M7, ?_, by rw [k2]; exact mm, k1⟩
            have cm' : f_X9_moved M3 (nI p) = some (nI (z_mv ln ln' p (s 4) 0 0)) := cm
            rw [C1, if_neg (show ¬ (if T'.1 0 = none then (0 : Int32) else 1) = 0 by rw [if_neg nn']; decide), cm', Option.bind_some]
      · have h24 : s 4 = 24 := by omega
        refine bad (-1000000003) ?_ ?_
        · unfold f_X9_shift; rw [d1, o, if_neg (by decide), x1, if_neg (by decide), if_neg (show ¬ nI (s 4) < 24 from nI_nlt (b := 24) (by omega) (by omega))]
        · unfold f_X10_shift; rw [z_in, z_c4, m4, o, if_neg (by decide), x2, if_neg (by decide), if_pos (show nI (s 4) = 24 by rw [h24]; rfl)]
