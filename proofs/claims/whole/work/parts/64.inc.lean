/-! level 2: inch -/
theorem z_wiV {W : Nat} (hW : W ≤ 999) (v : Int32) : f_X9_isWithin v (1 - nI W) (999 - nI W) = 0 ∨ (f_X9_isWithin v (1 - nI W) (999 - nI W) = 1 ∧ ∃ W', 1 ≤ W' ∧ W' ≤ 999 ∧ nI W + v = nI W') := by
  unfold f_X9_isWithin
  have a1 : (1 - nI W : Int32).toInt = 1 - (W : Int) := z_subI (a := 1) (by omega) (by omega)
  have a2 : (999 - nI W : Int32).toInt = 999 - (W : Int) := z_subI (a := 999) (by omega) (by omega)
  by_cases h1 : v < 1 - nI W
  · left; rw [if_pos h1]
  · by_cases h2 : 999 - nI W < v
    · left; rw [if_neg h1, if_pos h2]
    · right
      rw [if_neg h1, if_neg h2]
      refine ⟨rfl, ?_⟩
      rw [Int32.lt_iff_toInt_lt, a1] at h1
      rw [Int32.lt_iff_toInt_lt, a2] at h2
      have s1 : (nI W + v).toInt = (W : Int) + v.toInt := by
        rw [Int32.toInt_add, nI_toInt (by omega)]
        unfold Int.bmod
        dsimp only
        split <;> omega
      refine ⟨((W : Int) + v.toInt).toNat, by omega, by omega, ?_⟩
      apply Int32.toInt_inj.mp
      rw [s1, nI_toInt (by omega)]
      omega
theorem z_Pl_W {m W W' pl c : Nat} {h t d A : Nat → Nat} {lw : Option TU} {M : Mem} (hp : z_Pl m W pl c h t d A lw M) : z_Pl m W' pl c h t d A lw (bw_up M 1 4 (nI W')) := by
  obtain ⟨p1, p2, p3, p4, p5, p6, p7, p8⟩ := hp
  have o : ∀ b, b ≠ 1 → bw_up M 1 4 (nI W') b = M b := fun b hb => z_up_k _ _ _ _ hb
  refine ⟨by rw [z_up_i _ _ _ _ (by omega)]; exact p1, z_up_s _ _ _ _, by rw [z_up_i _ _ _ _ (by omega)]; exact p3, by rw [z_up_i _ _ _ _ (by omega)]; exact p4, ?_, ?_, ?_, ?_⟩
  · rw [o 2 (by omega), o 3 (by omega), o 4 (by omega)]; exact p5
  · rw [o 5 (by omega)]; exact p6
  · cases lw with
    | none => dsimp only at p7 ⊢; rw [z_up_i _ _ _ _ (by omega)]; exact p7
    | some u => dsimp only at p7 ⊢; rw [z_up_i _ _ _ _ (by omega)]; exact ⟨p7.1, z_LOK_fr (z_Cf_up (by omega)) p7.2⟩
  · rw [o 6 (by omega)]; exact p8
theorem z_Mp_W {m W W' pl c q0 : Nat} {h t d A : Nat → Nat} {lw : Option TU} {M : Mem} (hp : z_Mp m W pl c h t d A lw q0 M) : z_Mp m W' pl c h t d A lw q0 (bw_up M 93 8 (nI W')) := by
  obtain ⟨p1, p2, p3, p4, p5, p6, p7, p8, p9⟩ := hp
  have o : ∀ b, b ≠ 93 → bw_up M 93 8 (nI W') b = M b := fun b hb => z_up_k _ _ _ _ hb
  refine ⟨by rw [z_up_i _ _ _ _ (by omega)]; exact p1, z_up_s _ _ _ _, by rw [o 94 (by omega)]; exact p3, by rw [z_up_i _ _ _ _ (by omega)]; exact p4, ?_, ?_, z_MLw_fr (o 94 (by omega)) p7, ⟨p8.1, by rw [z_up_i _ _ _ _ (by omega)]; exact p8.2⟩, ?_⟩
  · rw [o 97 (by omega), o 98 (by omega), o 99 (by omega)]; exact p5
  · rw [o 100 (by omega)]; exact p6
  · rw [o 101 (by omega), o 102 (by omega)]; exact p9
def z_oN (b : Option Nat) : Int32 := match b with
  | none => -1000000005
  | some q => nI q
theorem op_inch : Op_inch Inv := by
  intro n M a hn hI
  have hI' := hI
  obtain ⟨⟨s, u, hS⟩, -⟩ := hI'
  have hS' := hS
  obtain ⟨hW, hM, hz, c1, c2, c3, c4, hT⟩ := hS
  obtain ⟨w1, w2, w3, w4, w5, w6, w7, w8, w9⟩ := hW.1
  obtain ⟨d1, d2, d3, d4, d5, d6, d7⟩ := c1
  have m4 : M 94 4 = nI (s 4) := hM 4 (by omega) (by omega)
  have m5 : M 94 5 = nI (s 5) := hM 5 (by omega) (by omega)
  have m6 : M 94 6 = nI (s 6) := hM 6 (by omega) (by omega)
  have m7 : M 94 7 = nI (s 7) := hM 7 (by omega) (by omega)
  have hL := z_32L hI
  have hA := hI.2.2.2.2.2.2.2.1
  have m1 : M 94 (1 : Int32).toNatClampNeg = nI (s 1) := hM 1 (by omega) (by omega)
  rcases z_wiV w6 a with o | ⟨o, W', v1, v2, v3⟩
  · refine ⟨-1000000001, M, M, ?_, ?_, z_nochange hI⟩
    · unfold f_X9_inch; rw [d2, if_pos o]
    · unfold f_X10_inch; rw [z_in, m1, if_pos o]
  · have hbd := z_BdS hW
    have hbd2 : z_Bd (s 4) W' (s 2) (s 7) (z_sH s) (z_sT s) (z_sD s) (z_sA s) := ⟨hbd.1, v2, hbd.2.2⟩
    obtain ⟨Ml, e1, e2, e3, e4, e5, e6⟩ := z_load (n := n) hS' (by omega) (by omega) hL (fun t ht => (hL.2.1 t ht).1)
    obtain ⟨Ma, a1, a2, a3, a4, a5, a6⟩ := z_cLst hbd e2
    have p2 := z_Pl_W (W' := W') a2
    obtain ⟨Mb, b1, b2, b3, b4, b5, b6⟩ := z_cLst hbd2 p2
    have cf : z_Cf M Mb := z_Cf_t e3 (z_Cf_t a3 (z_Cf_t (z_Cf_up (by omega)) b3))
    obtain ⟨T1, hT1⟩ : ∃ T, T = (z_out (s 4) (s 1) (z_sH s) (z_sT s) (z_sD s) (z_sf (z_sA s) (s 7)) (z_P (z_lw 0 u (s 6)) (s 2)) (s 4)).1 0 := ⟨_, rfl⟩
    obtain ⟨T2, hT2⟩ : ∃ T, T = (z_out (s 4) W' (z_sH s) (z_sT s) (z_sD s) (z_sf (z_sA s) (s 7)) (z_P (z_lw 0 u (s 6)) (s 2)) (s 4)).1 0 := ⟨_, rfl⟩
    have B1 : ∀ q, T1 = some q → q < 2 ^ 31 := by
      intro q hq
      have := z_outB (s 4) (s 1) (z_sH s) (z_sT s) (z_sD s) (z_sf (z_sA s) (s 7)) (z_P (z_lw 0 u (s 6)) (s 2)) (fun a b ha => z_P_le hbd.2.2.1 ha) (fun a ha => z_sf_le (fun k hk => (hbd.2.2.2.2.2 k hk).2) ha) (fun j hj => (hbd.2.2.2.2.1 j hj).2.1) (s 4) (by omega) 0 q (by rw [← hT1]; exact hq)
      omega
    have B2 : ∀ q, T2 = some q → q < 2 ^ 31 := by
      intro q hq
      have := z_outB (s 4) W' (z_sH s) (z_sT s) (z_sD s) (z_sf (z_sA s) (s 7)) (z_P (z_lw 0 u (s 6)) (s 2)) (fun a b ha => z_P_le hbd.2.2.1 ha) (fun a ha => z_sf_le (fun k hk => (hbd.2.2.2.2.2 k hk).2) ha) (fun j hj => (hbd.2.2.2.2.1 j hj).2.1) (s 4) (by omega) 0 q (by rw [← hT2]; exact hq)
      omega
    have st : z_Stk Mb 25 94 s u := z_Stk_fr (cf.1 94 (by omega)) (fun k g1 g2 => cf.1 k (by omega)) cf.2 hS'
    obtain ⟨q, Mc, Md, c0, c1', c2', c3', c4', -⟩ := z_mBeg (n := n) hn hW st.2.1 st.2.2.2.2.2.2.2 (z_Ask_fr (by rw [cf.1 93 (by omega)]) (cf.1 102 (by omega)) hA)
    obtain ⟨Me, f1, f2, f3, f4, f5, f6⟩ := z_mLst hbd c3'
    have p3 := z_Mp_W (W' := W') f2
    obtain ⟨Mf, g1, g2, g3, g4, g5, g6⟩ := z_mLst hbd2 p3
    rw [← hT1] at a1 f1
    rw [← hT2] at b1 g1
    have a1' : f_X2_leastPrices Ml = some (z_oN T1, Ma) := a1
    have b1' : f_X2_leastPrices (bw_up Ma 1 4 (nI W')) = some (z_oN T2, Mb) := b1
    refine ⟨if z_oN T1 < 0 then -1000000005 else if 0 ≤ z_oN T2 then z_oN T2 - z_oN T1 else -1000000005, Mb, Mf, ?_, ?_, z_fin hI cf (z_PlLok b2 cf) ?_ (z_Mf_t c4' (z_Mf_t f3 (z_Mf_t (z_Mf_93 (by omega)) g3))) (z_AskMp (by omega) g2)⟩
    · unfold f_X9_inch
      rw [d2, o, if_neg (by decide), e1, Option.bind_some, a1', Option.bind_some, z_ml]
      rw [show (z_oN T1, Ma).2 1 4 = nI (s 1) from a2.2.1, v3]
      rw [show (bw_up (z_oN T1, Ma).2 1 4 (nI W')) = bw_up Ma 1 4 (nI W') from rfl, b1', Option.bind_some]
    · unfold f_X10_inch
      rw [z_in, cf.1 94 (by omega), m1, o, if_neg (by decide), c1', Option.bind_some, c2', Option.bind_some, f1, Option.bind_some, z_ml]
      rw [show (z_oI T1, Me).2 93 8 = nI (s 1) from f2.2.1, v3]
      rw [show (bw_up (z_oI T1, Me).2 93 8 (nI W')) = bw_up Me 93 8 (nI W') from rfl, g1, Option.bind_some]
      cases T1 with
      | none => rw [if_pos (show z_oI none < 0 by decide), if_pos (show z_oN none < 0 by decide)]
      | some x =>
        cases T2 with
        | none =>
          rw [if_neg (show ¬ z_oI (some x) < 0 from nI_pos (B1 x rfl)), if_neg (show ¬ z_oN (some x) < 0 from nI_pos (B1 x rfl)), if_neg (show ¬ 0 ≤ z_oI none by decide), if_neg (show ¬ 0 ≤ z_oN none by decide)]
        | some y =>
          rw [if_neg (show ¬ z_oI (some x) < 0 from nI_pos (B1 x rfl)), if_neg (show ¬ z_oN (some x) < 0 from nI_pos (B1 x rfl)), if_pos (show 0 ≤ z_oI (some y) from nI_pos' (B2 y rfl)), if_pos (show 0 ≤ z_oN (some y) from nI_pos' (B2 y rfl))]; rfl
    · rw [b6 11 (by omega) (by omega) (by omega) (by omega) (by omega), z_up_k _ _ _ _ (by omega), a6 11 (by omega) (by omega) (by omega) (by omega) (by omega), e6 11 (by omega) (by omega)]
      exact hL.2.2.2
