/-! level 2: line -/
set_option maxHeartbeats 4000000 in
theorem op_line : Op_line Inv := by
  intro n M a b hn hI
  have hI' := hI
  obtain ⟨⟨s, u, hS⟩, -⟩ := hI'
  have hS' := hS
  obtain ⟨hW, hM, hz, c1, c2, c3, c4, hT⟩ := hS
  obtain ⟨w1, w2, w3, w4, w5, w6, w7, w8, w9⟩ := hW.1
  obtain ⟨d1, d2, d3, d4, d5, d6, d7⟩ := c1
  have m4 : M 94 4 = nI (s 4) := hM 4 (by omega) (by omega)
  have m5 : M 94 5 = nI (s 5) := hM 5 (by omega) (by omega)
  have m6 : M 94 6 = nI (s 6) := hM 6 (by omega) (by omega)
  have m7 : M 94 7 = nI (s 7) := hM 7 (by omega) (by omega)
  have h3 := (z_32L hI).2.2.2
  have hfu : 100 < bw_fu := by decide
  have bad : ∀ r, f_X9_line M a b = some (r, M) → f_X10_line M a b = some (r, M) → ∃ (r : Int32) (M1 M2 : Mem), (f_X9_line M a b = some (r, M1)) ∧ (f_X10_line M1 a b = some (r, M2)) ∧ Inv (n + 1) M2 :=
    fun r h1 h2 => ⟨r, M, M, h1, h2, z_nochange hI⟩
  by_cases ga : a < 0
  · exact bad (-1000000001) (by unfold f_X9_line; rw [if_pos ga]) (by unfold f_X10_line; rw [if_pos ga])
  · obtain ⟨k, hk, rfl⟩ := nI_of ga
    rcases z_wi b 0 4 (by omega) (by omega) with o | ⟨o, w, -, hw, rfl⟩
    · rw [← l_0, ← l_4] at o
      exact bad (-1000000001) (by unfold f_X9_line; rw [if_neg ga, if_pos o]) (by unfold f_X10_line; rw [if_neg ga, z_in, if_pos o])
    · rw [← l_0, ← l_4] at o
      obtain ⟨T, hT⟩ : ∃ T, T = z_out (s 4) (s 1) (z_sH s) (z_sT s) (z_sD s) (z_sf (z_sA s) (s 7)) (z_P (z_lw 0 u (s 6)) (s 2)) (s 4) := ⟨_, rfl⟩
      obtain ⟨Sl, hSl⟩ : ∃ Sl, Sl = z_st T.2 (s 4) (s 4 + 1) 0 := ⟨_, rfl⟩
      obtain ⟨hq, ⟨Ml, M1, e1, e2, e3, e4, e5, e6, e7, e8⟩, hm⟩ := z_both hn hI hS' hT hSl
      have fin : ∀ (M1' : Mem) (M2' : Mem) (q0 : Nat), z_Pl (s 4) (s 1) (s 2) (s 7) (z_sH s) (z_sT s) (z_sD s) (z_sA s) (z_lw 0 u (s 6)) M1' → z_Cf M M1' → M1' 11 = M 11 → q0 ≤ n + 1 → z_Mp (s 4) (s 1) (s 2) (s 7) (z_sH s) (z_sT s) (z_sD s) (z_sA s) (z_lw 0 u (s 6)) q0 M2' → z_Mf M1' M2' → Inv (n + 1) M2' := by
        intro M1' M2' q0 a1 a2 a3 a4 a5 a6
        exact z_fin hI a2 (z_PlLok a1 a2) (by rw [a3]; exact h3) a6 (z_AskMp a4 a5)
      have m11 : M1 11 = M 11 := e8 11 (by omega) (by omega)
      have C : f_X9_line M (nI k) (nI w) = (if (if T.1 0 = none then (0 : Int32) else 1) = 0 then some ((-1000000005 : Int32), M1) else (if nI k < (M1 1 14) then (if nI w = (0 : Int32) then (f_X2_booksOf M1 (nI k)).bind fun q10 => some (q10, M1) else (if nI w = (1 : Int32) then (f_X2_thicknessOf M1 (nI k)).bind fun q12 => some (q12, M1) else (if nI w = (2 : Int32) then (f_X2_tallOf M1 (nI k)).bind fun q14 => some (q14, M1) else (if nI w = (3 : Int32) then (f_X2_tallOf M1 (nI k)).bind fun q16 => (f_X2_setFor M1 q16).bind fun q17 => some (q17, M1) else (f_X2_tallOf M1 (nI k)).bind fun q18 => (f_X2_setFor M1 q18).bind fun q19 => (f_X2_booksOf M1 (nI k)).bind fun q20 => (f_X2_priceOf M1 q19 q20).bind fun q21 => some (q21.1, q21.2))))) else some ((-1000000005 : Int32), M1))) := by
        unfold f_X9_line
        rw [if_neg ga, o, if_neg (by decide), e1, Option.bind_some, e2, Option.bind_some]
      obtain ⟨q0, M2, f0, f1, f2, f3, f4, f5, f6⟩ := hm M1 e4
      have D : f_X10_line M1 (nI k) (nI w) = (if (M2 93 16) < 0 then some ((-1000000005 : Int32), M2) else (if nI k < (M2 93 17) then if bw_ib (nI k + (1 : Int32)) 26 = true then if bw_ib (nI k) 26 = true then bw_ml ((M2 105 (nI k + (1 : Int32)).toNatClampNeg) - (M2 105 (nI k).toNatClampNeg)) fun x9 => (if nI w = (0 : Int32) then some (x9, M2) else (if nI w = (1 : Int32) then (f_X10_thickOf M2 (nI k)).bind fun q12 => some (q12, M2) else (if nI w = (2 : Int32) then (f_X10_tallOf M2 (nI k)).bind fun q14 => some (q14, M2) else (if nI w = (3 : Int32) then (f_X10_tallOf M2 (nI k)).bind fun q16 => (f_X10_setOf M2 q16).bind fun q17 => some (q17, M2) else (f_X10_tallOf M2 (nI k)).bind fun q18 => (f_X10_setOf M2 q18).bind fun q19 => (f_X10_priceOf M2 q19 x9).bind fun q20 => some (q20.1, q20.2))))) else none else none else some ((-1000000005 : Int32), M2))) := by
        unfold f_X10_line
        rw [if_neg ga, z_in, o, if_neg (by decide), f1, Option.bind_some]
      have fi := fin M1 M2 q0 e3 e4 m11 f0 f2 f3
      cases hq0 : T.1 0 with
      | none =>
        refine ⟨-1000000005, M1, M2, ?_, ?_, fi⟩
        · rw [C, if_pos (show (if T.1 0 = none then (0 : Int32) else 1) = 0 by rw [if_pos hq0])]
        · rw [D, f4, hq0, if_pos (by decide)]
      | some q =>
        have nn : ¬ T.1 0 = none := by rw [hq0]; simp
        have qb := hq q hq0
        obtain ⟨hl, hset⟩ := z_LnI hT hSl nn
        obtain ⟨e6a, e6b⟩ := e6 nn
        obtain ⟨f5a, f5b, f5c⟩ := f5 nn
        have sl := hl.1
        rw [if_neg (show ¬ (if T.1 0 = none then (0 : Int32) else 1) = 0 by rw [if_neg nn]; decide), e6a] at C
        rw [f4, hq0, if_neg (show ¬ z_oI (some q) < 0 from nI_pos (by omega)), f5a] at D
        by_cases gk : k < Sl.length
        · obtain ⟨-, l2, l3, l4⟩ := hl.2.2 k gk
          rw [if_pos (nI_lt gk (by omega))] at C D
          rw [nI_1, z_ib (by omega) (by omega), if_pos rfl, z_ib (by omega) (by omega), if_pos rfl, nI_clamp (by omega), nI_clamp (by omega), f5b _ (by omega), f5b _ (by omega), pk_sub (by omega), z_ml] at D
          have bd := z_BdS hW
          have bd5 := bd.2.2.2.2.1
          have e3' := e3
          have f2' := f2
          obtain ⟨-, -, -, -, p5, -⟩ := e3'
          obtain ⟨-, -, -, -, r5, -⟩ := f2'
          have B := z_cBo w1 hl e6a e6b gk
          have n105 := f5b (k + 1) (by omega)
          have n105k := f5b k (by omega)
          have cTh : f_X2_thicknessOf M1 (nI k) = some (nI (z_ts (z_sT s) (Sl.getD k (s 4)) (Sl.getD (k + 1) (s 4) - Sl.getD k (s 4)))) := by
            unfold f_X2_thicknessOf f_X2_thicknessOf_J29
            rw [e6a, z_wiM (by omega) (by omega), if_pos gk, if_neg (by decide), z_ib (by omega) (by omega), if_pos rfl, nI_clamp (by omega), e6b k (by omega)]
            have q := z_cTh (t := z_sT s) (f := (Sl.getD k (s 4))) (n := (Sl.getD (k + 1) (s 4) - Sl.getD k (s 4))) (by omega) B (fun j hj => (p5 j (by omega)).2.1) (Sl.getD (k + 1) (s 4) - Sl.getD k (s 4)) 0 bw_fu (by omega) (by omega)
            rw [show z_ts (z_sT s) (Sl.getD k (s 4)) 0 = 0 from rfl, ← l_0] at q
            exact q
          have cTa : f_X2_tallOf M1 (nI k) = some (nI (z_tl (z_sH s) (Sl.getD k (s 4)) (Sl.getD (k + 1) (s 4) - Sl.getD k (s 4)))) := by
            unfold f_X2_tallOf f_X2_tallOf_J29
            rw [e6a, z_wiM (by omega) (by omega), if_pos gk, if_neg (by decide), z_ib (by omega) (by omega), if_pos rfl, nI_clamp (by omega), e6b k (by omega)]
            have q := z_cTa (h := z_sH s) (f := (Sl.getD k (s 4))) (n := (Sl.getD (k + 1) (s 4) - Sl.getD k (s 4))) (by omega) B (fun j hj => (p5 j (by omega)).1) (fun j hj => (bd5 j (by omega)).2.1) (Sl.getD (k + 1) (s 4) - Sl.getD k (s 4)) 0 bw_fu (by omega) (by omega)
            rw [show z_tl (z_sH s) (Sl.getD k (s 4)) 0 = 0 from rfl, ← l_0] at q
            exact q
          have mTh : f_X10_thickOf M2 (nI k) = some (nI (z_ts (z_sT s) (Sl.getD k (s 4)) (Sl.getD (k + 1) (s 4) - Sl.getD k (s 4)))) := by
            unfold f_X10_thickOf
            rw [z_ib (by omega) (by omega), if_pos rfl, nI_clamp (by omega), n105k]
            have q := z_mTh (M := M2) (k := k) (t := z_sT s) (f := (Sl.getD k (s 4))) (n := (Sl.getD (k + 1) (s 4) - Sl.getD k (s 4))) (by omega) (by omega) (by rw [n105]; congr 1; omega) (fun j hj => (r5 j (by omega)).2.1) (Sl.getD (k + 1) (s 4) - Sl.getD k (s 4)) 0 bw_fu (by omega) (by omega)
            rw [show z_ts (z_sT s) (Sl.getD k (s 4)) 0 = 0 from rfl, Nat.add_zero, ← l_0] at q
            exact q
          have mTa : f_X10_tallOf M2 (nI k) = some (nI (z_tl (z_sH s) (Sl.getD k (s 4)) (Sl.getD (k + 1) (s 4) - Sl.getD k (s 4)))) := by
            unfold f_X10_tallOf
            rw [z_ib (by omega) (by omega), if_pos rfl, nI_clamp (by omega), n105k]
            have q := z_mTa (M := M2) (k := k) (h := z_sH s) (f := (Sl.getD k (s 4))) (n := (Sl.getD (k + 1) (s 4) - Sl.getD k (s 4))) (by omega) (by omega) (by rw [n105]; congr 1; omega) (fun j hj => (r5 j (by omega)).1) (fun j hj => (bd5 j (by omega)).2.1) (Sl.getD (k + 1) (s 4) - Sl.getD k (s 4)) 0 bw_fu (by omega) (by omega)
            rw [show z_tl (z_sH s) (Sl.getD k (s 4)) 0 = 0 from rfl, Nat.add_zero, ← l_0] at q
            exact q
          have hs := hset k gk
          have t1 := z_tl1 (h := z_sH s) (i := Sl.getD k (s 4)) (m := s 4) (fun j hj => (bd5 j hj).1) (Sl.getD (k + 1) (s 4) - Sl.getD k (s 4)) (by omega) (by omega)
          have t9 := z_tl_le (h := z_sH s) (i := Sl.getD k (s 4)) (m := s 4) (fun j hj => (bd5 j hj).2.1) (Sl.getD (k + 1) (s 4) - Sl.getD k (s 4)) (by omega)
          have cS := z_cSet bd e3 t9
          have mS := z_mSet bd f2 t1 t9
          have s9 := z_sf_le (A := z_sA s) (c := s 7) (fun k hk => (bd.2.2.2.2.2 k hk).2) t9
          rw [show z_e0 (z_sf (z_sA s) (s 7) (z_tl (z_sH s) (Sl.getD k (s 4)) (Sl.getD (k + 1) (s 4) - Sl.getD k (s 4)))) = nI (z_sf (z_sA s) (s 7) (z_tl (z_sH s) (Sl.getD k (s 4)) (Sl.getD (k + 1) (s 4) - Sl.getD k (s 4)))) by unfold z_e0; rw [if_neg (by omega)]] at mS
          rcases (by omega : w = 0 ∨ w = 1 ∨ w = 2 ∨ w = 3 ∨ w = 4) with rfl | rfl | rfl | rfl | rfl
          · refine ⟨nI (Sl.getD (k + 1) (s 4) - Sl.getD k (s 4)), M1, M2, ?_, ?_, fi⟩
            · exact (C.trans (by rw [if_pos (by decide), B]; rfl))
            · exact (D.trans (by rw [if_pos (by decide)]))
          · refine ⟨nI (z_ts (z_sT s) (Sl.getD k (s 4)) (Sl.getD (k + 1) (s 4) - Sl.getD k (s 4))), M1, M2, ?_, ?_, fi⟩
            · exact (C.trans (by rw [if_neg (by decide), if_pos (by decide), cTh]; rfl))
            · exact (D.trans (by rw [if_neg (by decide), if_pos (by decide), mTh]; rfl))
          · refine ⟨nI (z_tl (z_sH s) (Sl.getD k (s 4)) (Sl.getD (k + 1) (s 4) - Sl.getD k (s 4))), M1, M2, ?_, ?_, fi⟩
            · exact (C.trans (by rw [if_neg (by decide), if_neg (by decide), if_pos (by decide), cTa]; rfl))
            · exact (D.trans (by rw [if_neg (by decide), if_neg (by decide), if_pos (by decide), mTa]; rfl))
          · refine ⟨nI (z_sf (z_sA s) (s 7) (z_tl (z_sH s) (Sl.getD k (s 4)) (Sl.getD (k + 1) (s 4) - Sl.getD k (s 4)))), M1, M2, ?_, ?_, fi⟩
            · exact (C.trans (by rw [if_neg (by decide), if_neg (by decide), if_neg (by decide), if_pos (by decide), cTa, Option.bind_some, cS]; rfl))
            · exact (D.trans (by rw [if_neg (by decide), if_neg (by decide), if_neg (by decide), if_pos (by decide), mTa, Option.bind_some, mS]; rfl))
          · obtain ⟨M1', g1, g2, g3, g4⟩ := z_cPr (b := Sl.getD (k + 1) (s 4) - Sl.getD k (s 4)) bd e3 s9 (by omega)
            exact z_line4 hn hI hS' hT hSl hm nn gk g2 (z_Cf_t e4 g3) (by rw [g4 11 (by omega) (by omega) (by omega)]; exact m11) (C.trans (by rw [if_neg (by decide), if_neg (by decide), if_neg (by decide), if_neg (by decide), cTa, Option.bind_some, cS, Option.bind_some, B, Option.bind_some, g1]; rfl))
        · rw [if_neg (nI_nlt (by omega) (by omega))] at C D
          exact ⟨_, M1, M2, C, D, fi⟩
