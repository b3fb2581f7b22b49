/-! level 2: deal, feed, trim, tell -/
theorem z_nIx (x : Int32) : nI x.toBitVec.toNat = x := by
  apply Int32.toBitVec.inj
  show BitVec.ofNat 32 x.toBitVec.toNat = x.toBitVec
  simp
def z_dq (z : Int32) : Nat := (bw_ushr z 8).toBitVec.toNat
theorem z_dqe (z : Int32) : bw_ushr z 8 = nI (z_dq z) := (z_nIx _).symm
theorem z_dqb (z : Int32) : z_dq z < 2 ^ 24 := by
  have := pk_ushr z 8 8 (by decide)
  unfold z_dq bw_ushr
  rw [this]
  have := z.toBitVec.isLt
  omega
def z_dz (z : Int32) : Int32 := z * 1103515245 + 12345
def z_ds (z : Int32) (s : Nat → Nat) : Nat → Nat := z_sb s (20 + z_dq (z_dz z) % 30) (1 + z_dq (z_dz (z_dz z)) % 20) (z_dq (z_dz (z_dz (z_dz z))) % 8)
def z_dl : Nat → Int32 → (Nat → Nat) → Int32 × (Nat → Nat)
  | 0, z, s => (z, s)
  | r + 1, z, s => z_dl r (z_dz (z_dz (z_dz z))) (z_ds z s)
theorem z_ds4 (z : Int32) (s : Nat → Nat) : z_ds z s 4 = s 4 + 1 := by unfold z_ds z_sb; rw [z_su_a, if_pos rfl]
theorem z_dsW {z : Int32} {s : Nat → Nat} (hW : z_W s) (hs : s 4 < 24) : z_W (z_ds z s) := z_sb_W hW hs (by omega) (by omega) (by omega) (by omega) (by omega)
theorem z_remN {q d : Nat} (hq : q < 2 ^ 31) (hd : 0 < d) (hd2 : d < 2 ^ 31) : bw_rem (nI q) (nI d) = nI (q % d) := pk_rem hq hd hd2
theorem z_cDeal {c : Nat} (hc : c ≤ 24) : ∀ r i fu (M : Mem) (s : Nat → Nat), i + r = c → r < fu → z_C M 25 s → z_W s → s 4 + r ≤ 24 → ∃ M', f_X9_deal_L30 (nI c) fu (nI i) M = some (nI c, M') ∧ z_C M' 25 (z_dl r (M 25 8) s).2 ∧ z_W (z_dl r (M 25 8) s).2 ∧ (z_dl r (M 25 8) s).2 6 = s 6 ∧ M' 25 8 = (z_dl r (M 25 8) s).1 ∧ ∀ b, b < 25 ∨ 29 < b → M' b = M b := by
  intro r
  induction r with
  | zero =>
    intro i fu M s h1 h2 hC hW h4
    obtain ⟨fu, rfl⟩ : ∃ f, fu = f + 1 := ⟨fu - 1, by omega⟩
    refine ⟨M, ?_, hC, hW, rfl, rfl, fun _ _ => rfl⟩
    rw [f_X9_deal_L30, if_pos (nI_le (by omega) (by omega))]
  | succ r ih =>
    intro i fu M s h1 h2 hC hW h4
    obtain ⟨fu, rfl⟩ : ∃ f, fu = f + 1 := ⟨fu - 1, by omega⟩
    have b1 := z_dqb (z_dz (M 25 8))
    have b2 := z_dqb (z_dz (z_dz (M 25 8)))
    have b3 := z_dqb (z_dz (z_dz (z_dz (M 25 8))))
    obtain ⟨M3, hM3⟩ : ∃ M3, M3 = bw_up (bw_up (bw_up M 25 8 (z_dz (M 25 8))) 25 8 (z_dz (z_dz (M 25 8)))) 25 8 (z_dz (z_dz (z_dz (M 25 8)))) := ⟨_, rfl⟩
    have k0 : M3 25 0 = nI (s 4) := by
      rw [hM3]; simp (disch := omega) only [z_up, if_pos, if_neg, ite_true, ite_false, and_self, and_true, true_and, and_false, false_and]; exact hC.1.1
    have k8 : M3 25 8 = z_dz (z_dz (z_dz (M 25 8))) := by rw [hM3, z_up_s]
    have kC : z_C M3 25 s := by
      obtain ⟨c1, c2, c3, c4⟩ := hC
      rw [hM3]
      refine ⟨?_, ?_, ?_, ?_⟩
      · simp (disch := omega) only [z_CN, z_up, if_pos, if_neg, ite_true, ite_false, and_self, and_true, true_and, and_false, false_and]; exact c1
      · simp (disch := omega) only [z_CB, z_up_k]; exact c2
      · intro i hi
        simp (disch := omega) only [z_up_k]; exact c3 i hi
      · simp (disch := omega) only [z_CA, z_up_k]; exact c4
    have ad := z_cAdd (M := M3) (s := s) (h := 20 + z_dq (z_dz (M 25 8)) % 30) (t := 1 + z_dq (z_dz (z_dz (M 25 8))) % 20) (p := z_dq (z_dz (z_dz (z_dz (M 25 8)))) % 8) k0 (by omega)
    have adC := z_cab_C (M := M3) (s := s) (h := 20 + z_dq (z_dz (M 25 8)) % 30) (t := 1 + z_dq (z_dz (z_dz (M 25 8))) % 20) (p := z_dq (z_dz (z_dz (z_dz (M 25 8)))) % 8) kC hW.1 (by omega)
    obtain ⟨M4, hM4⟩ : ∃ M4, M4 = z_cab M3 (s 4) (20 + z_dq (z_dz (M 25 8)) % 30) (1 + z_dq (z_dz (z_dz (M 25 8))) % 20) (z_dq (z_dz (z_dz (z_dz (M 25 8)))) % 8) := ⟨_, rfl⟩
    rw [← hM4] at ad adC
    have k48 : M4 25 8 = z_dz (z_dz (z_dz (M 25 8))) := by
      rw [hM4, ← k8]; simp (disch := omega) only [z_cab, z_up, if_pos, if_neg, ite_true, ite_false, and_self, and_true, true_and, and_false, false_and]
    obtain ⟨M', e1, e2, e3, e4, e5, e6⟩ := ih (i + 1) fu M4 (z_ds (M 25 8) s) (by omega) (by omega) adC (z_dsW hW (by omega)) (by rw [z_ds4]; omega)
    rw [k48] at e2 e3 e4 e5
    refine ⟨M', ?_, e2, e3, ?_, e5, ?_⟩
    · rw [f_X9_deal_L30, if_neg (nI_ge (by omega) (by omega))]
      unfold f_X6_draw
      simp only [z_ml, Option.bind_some, z_up_s]
      change (f_X6_addBook (bw_up (bw_up (bw_up M 25 8 (z_dz (M 25 8))) 25 8 (z_dz (z_dz (M 25 8)))) 25 8 (z_dz (z_dz (z_dz (M 25 8))))) 25 (20 + bw_rem (bw_ushr (z_dz (M 25 8)) 8) 30) (1 + bw_rem (bw_ushr (z_dz (z_dz (M 25 8))) 8) 20) (bw_rem (bw_ushr (z_dz (z_dz (z_dz (M 25 8)))) 8) 8)).bind _ = _
      rw [← hM3, z_dqe, z_dqe, z_dqe, l_30, l_20, l_8, z_remN (by omega) (by omega) (by omega), z_remN (by omega) (by omega) (by omega), z_remN (by omega) (by omega) (by omega), l_1, nI_add, nI_add, ad, Option.bind_some, nI_add]
      exact e1
    · rw [show z_dl (r + 1) (M 25 8) s = z_dl r (z_dz (z_dz (z_dz (M 25 8)))) (z_ds (M 25 8) s) from rfl, e4]
      unfold z_ds z_sb
      simp (disch := omega) only [z_su_a, if_pos, if_neg, ite_true, ite_false, and_self, and_true, true_and, and_false, false_and]
    · intro b hb
      rw [e6 b hb, hM4]
      simp (disch := omega) only [z_cab, z_up_k]
      rw [hM3]
      simp (disch := omega) only [z_up_k]
theorem z_mDeal {v : Nat} (hv : v ≤ 24) : ∀ r i fu (M : Mem) (s : Nat → Nat), r < fu → i + r ≤ v → (i + r = v ∨ s 4 + r = 24) → z_MR M 94 s → z_W s → s 4 + r ≤ 24 → ∃ M', f_X10_deal_L15 (nI v) fu (nI i) M = some (nI (i + r), M') ∧ z_MR M' 94 (z_dl r (M 94 0) s).2 ∧ M' 94 0 = (z_dl r (M 94 0) s).1 ∧ (∀ k, 158 ≤ k → M' 94 k = M 94 k) ∧ ∀ b, b ≠ 94 → M' b = M b := by
  intro r
  induction r with
  | zero =>
    intro i fu M s h2 h1 h3 hM hW h4
    obtain ⟨fu, rfl⟩ : ∃ f, fu = f + 1 := ⟨fu - 1, by omega⟩
    refine ⟨M, ?_, hM, rfl, fun _ _ => rfl, fun _ _ => rfl⟩
    rw [f_X10_deal_L15]
    by_cases g : v ≤ i
    · rw [if_pos (nI_le g (by omega))]; rfl
    · rw [if_neg (nI_ge (by omega) (by omega)), z_c4, hM 4 (by omega) (by omega), l_24, if_pos (nI_le (by omega) (by omega))]; rfl
  | succ r ih =>
    intro i fu M s h2 h1 h3 hM hW h4
    obtain ⟨fu, rfl⟩ : ∃ f, fu = f + 1 := ⟨fu - 1, by omega⟩
    have b1 := z_dqb (z_dz (M 94 0))
    have b2 := z_dqb (z_dz (z_dz (M 94 0)))
    have b3 := z_dqb (z_dz (z_dz (z_dz (M 94 0))))
    obtain ⟨M3, hM3⟩ : ∃ M3, M3 = bw_up (bw_up (bw_up M 94 0 (z_dz (M 94 0))) 94 0 (z_dz (z_dz (M 94 0)))) 94 0 (z_dz (z_dz (z_dz (M 94 0)))) := ⟨_, rfl⟩
    have kM : z_MR M3 94 s := by
      intro k g1 g2
      rw [hM3]; simp (disch := omega) only [z_up, if_pos, if_neg, ite_true, ite_false, and_self, and_true, true_and, and_false, false_and]; exact hM k g1 g2
    have ad := z_mAdd (M := M3) (s := s) (h := 20 + z_dq (z_dz (M 94 0)) % 30) (t := 1 + z_dq (z_dz (z_dz (M 94 0))) % 20) (p := z_dq (z_dz (z_dz (z_dz (M 94 0)))) % 8) (kM 4 (by omega) (by omega)) (by omega)
    have adM := z_mab_MR (M := M3) (s := s) (h := 20 + z_dq (z_dz (M 94 0)) % 30) (t := 1 + z_dq (z_dz (z_dz (M 94 0))) % 20) (p := z_dq (z_dz (z_dz (z_dz (M 94 0)))) % 8) kM
    obtain ⟨M4, hM4⟩ : ∃ M4, M4 = z_mab M3 (s 4) (20 + z_dq (z_dz (M 94 0)) % 30) (1 + z_dq (z_dz (z_dz (M 94 0))) % 20) (z_dq (z_dz (z_dz (z_dz (M 94 0)))) % 8) := ⟨_, rfl⟩
    rw [← hM4] at ad adM
    have k48 : M4 94 0 = z_dz (z_dz (z_dz (M 94 0))) := by
      rw [hM4]; simp (disch := omega) only [z_mab, z_up, if_pos, if_neg, ite_true, ite_false, and_self, and_true, true_and, and_false, false_and]; rw [hM3, z_up_s]
    obtain ⟨M', e1, e2, e5, e6, e7⟩ := ih (i + 1) fu M4 (z_ds (M 94 0) s) (by omega) (by omega) (by rw [z_ds4]; omega) adM (z_dsW hW (by omega)) (by rw [z_ds4]; omega)
    rw [k48] at e2 e5
    refine ⟨M', ?_, e2, e5, ?_, ?_⟩
    · rw [f_X10_deal_L15, if_neg (nI_ge (by omega) (by omega)), z_c4, hM 4 (by omega) (by omega), l_24, if_neg (nI_ge (by omega) (by omega))]
      unfold f_X10_draw
      rw [show ((0 : Int32).toNatClampNeg) = 0 from rfl]
      simp only [z_ml, Option.bind_some, z_up_s]
      change (f_X10_comes (bw_up (bw_up (bw_up M 94 0 (z_dz (M 94 0))) 94 0 (z_dz (z_dz (M 94 0)))) 94 0 (z_dz (z_dz (z_dz (M 94 0))))) (20 + bw_rem (bw_ushr (z_dz (M 94 0)) 8) 30) (1 + bw_rem (bw_ushr (z_dz (z_dz (M 94 0))) 8) 20) (bw_rem (bw_ushr (z_dz (z_dz (z_dz (M 94 0)))) 8) 8)).bind _ = _
      rw [← hM3, z_dqe, z_dqe, z_dqe, l_30, l_20, l_8, z_remN (by omega) (by omega) (by omega), z_remN (by omega) (by omega) (by omega), z_remN (by omega) (by omega) (by omega), l_1, nI_add, nI_add, ad, Option.bind_some, nI_add, show i + (r + 1) = i + 1 + r by omega]
      exact e1
    · intro k hk
      rw [e6 k hk, hM4]
      simp (disch := omega) only [z_mab, z_up, if_pos, if_neg, ite_true, ite_false, and_self, and_true, true_and, and_false, false_and]
      rw [hM3]
      simp (disch := omega) only [z_up, if_pos, if_neg, ite_true, ite_false, and_self, and_true, true_and, and_false, false_and]
    · intro b hb
      rw [e7 b hb, hM4]
      simp (disch := omega) only [z_mab, z_up_k]
      rw [hM3]
      simp (disch := omega) only [z_up_k]
theorem op_deal : Op_deal Inv := by
  intro n M a hn hI
  have hI' := hI
  obtain ⟨⟨s, u, hS⟩, -⟩ := hI'
  have hS' := hS
  obtain ⟨hW, hM, hz, c1, c2, c3, c4, hT⟩ := hS
  obtain ⟨w1, w2, w3, w4, w5, w6, w7, w8, w9⟩ := hW.1
  obtain ⟨d1, d2, d3, d4, d5, d6, d7⟩ := c1
  have m4 : M 94 4 = nI (s 4) := hM 4 (by omega) (by omega)
  have m5 : M 94 5 = nI (s 5) := hM 5 (by omega) (by omega)
  have m6 : M 94 6 = nI (s 6) := hM 6 (by omega) (by omega)
  have m7 : M 94 7 = nI (s 7) := hM 7 (by omega) (by omega)
  have hfu : (60 : Nat) < bw_fu := by decide
  rcases z_wi a 1 24 (by omega) (by omega) with e | ⟨e, v, v1, v2, rfl⟩
  · rw [← l_1, ← l_24] at e
    refine ⟨-1000000001, M, M, ?_, ?_, z_nochange hI⟩
    · unfold f_X9_deal; rw [if_pos e]
    · unfold f_X10_deal; rw [z_in, if_pos e]
  · rw [← l_1, ← l_24] at e
    obtain ⟨c, hc⟩ : ∃ c, c = if 24 - s 4 < v then 24 - s 4 else v := ⟨_, rfl⟩
    have hc' : c ≤ v ∧ c ≤ 24 - s 4 ∧ (c = v ∨ s 4 + c = 24) := by
      by_cases g : 24 - s 4 < v
      · rw [if_pos g] at hc; omega
      · rw [if_neg g] at hc; omega
    obtain ⟨M1, e1, e2, e3, e4, e5, e6⟩ := z_cDeal (c := c) (by omega) c 0 bw_fu M s (by omega) (by omega) ⟨⟨d1, d2, d3, d4, d5, d6, d7⟩, c2, c3, c4⟩ hW (by omega)
    have q94 : M1 94 = M 94 := e6 94 (by omega)
    obtain ⟨M2, f1, f2, f3, f4, f5⟩ := z_mDeal (v := v) v2 c 0 bw_fu M1 s (by omega) (by omega) (by omega) (by intro k g1 g2; rw [q94]; exact hM k g1 g2) hW (by omega)
    rw [q94] at f2 f3
    rw [← hz] at f2 f3
    refine ⟨nI c, M1, M2, ?_, ?_, ?_⟩
    · unfold f_X9_deal bw_min
      rw [e, if_neg (by decide), d1, l_24, pk_sub (by omega), l_0, z_ml]
      by_cases g : 24 - s 4 < v
      · rw [if_pos g] at hc; rw [if_pos (nI_lt g (by omega)), ← hc]; exact e1
      · rw [if_neg g] at hc; rw [if_neg (nI_nlt (by omega) (by omega)), ← hc]; exact e1
    · unfold f_X10_deal
      rw [z_in, e, if_neg (by decide), l_0, f1, Nat.zero_add]
    · refine z_Inv_stk hI ?_ ⟨_, u, z_Stk_mk hS' e3 f2 ?_ ?_ e4 ?_ ?_ ?_⟩ (z_32 hI ?_)
      · intro k hk
        rw [f5 k (by omega), e6 k (by omega)]
      · rw [f5 25 (by omega), e5, f3]
      · exact z_C_fr (fun k g1 g2 => f5 k (by omega)) e3.1.2.1 e2
      · rw [f5 _ (by omega), e6 _ (by omega)]
      · intro k hk; rw [f4 k hk, q94]
      · intro c
        rw [f5 _ (by omega), f5 _ (by omega), f5 _ (by omega), e6 _ (by omega), e6 _ (by omega), e6 _ (by omega)]
        exact ⟨rfl, rfl, rfl⟩
      · rw [f5 _ (by omega), e6 _ (by omega)]
/-- rows of the tape, of what waits, of the sheets and slots may change -/
theorem op_trim : Op_trim Inv := by
  intro n M a hn hI
  have hI' := hI
  obtain ⟨st, b, ⟨L, hL, t1, t2, t3⟩, d, e, f, g, ⟨q, hq, i1, i2⟩, ⟨⟨x, hx, hx2, hx3⟩, h4⟩⟩ := hI'
  rcases z_wi a 0 L (by omega) (by omega) with o | ⟨o, j, -, hj, rfl⟩
  · rw [← l_0] at o
    refine ⟨-1000000001, M, M, ?_, ?_, z_nochange hI⟩
    · unfold f_X9_trim; rw [t1, if_pos o]
    · unfold f_X10_trim; rw [z_in, t2, if_pos o]
  · rw [← l_0] at o
    refine ⟨nI j, bw_up M 16 1 (nI j), bw_up (bw_up M 16 1 (nI j)) 93 26 (nI j), ?_, ?_, ?_⟩
    · unfold f_X9_trim; rw [t1, o, if_neg (by decide), z_ml]
    · unfold f_X10_trim; rw [z_in, z_up_k _ _ _ _ (by omega), t2, o, if_neg (by decide), z_ml]
    · have fr : ∀ k, k ≠ 16 → k ≠ 93 → bw_up (bw_up M 16 1 (nI j)) 93 26 (nI j) k = M k := by
        intro k h1 h2; simp (disch := omega) only [z_up_k]
      have f93 : ∀ k, k ≠ 26 → bw_up (bw_up M 16 1 (nI j)) 93 26 (nI j) 93 k = M 93 k := by
        intro k h1; simp (disch := omega) only [z_up, if_pos, if_neg, ite_true, ite_false, and_self, and_true, true_and, and_false, false_and]
      obtain ⟨s, u, hS⟩ := st
      have hLE : z_LE M (bw_up (bw_up M 16 1 (nI j)) 93 26 (nI j)) := fun c => ⟨fr _ (by omega) (by omega), fr _ (by omega) (by omega), by rw [fr _ (by omega) (by omega)]⟩
      refine ⟨⟨s, u, z_Stk_fr (fr _ (by omega) (by omega)) (fun k h1 h2 => fr k (by omega) (by omega)) hLE hS⟩, z_Img_fr (by rw [fr _ (by omega) (by omega)]) (f93 _ (by omega)) (fr _ (by omega) (by omega)) (fun k h1 h2 => fr k (by omega) (by omega)) hLE b, ⟨j, by omega, by simp (disch := omega) only [z_up, if_pos, if_neg, ite_true, ite_false, and_self, and_true, true_and, and_false, false_and], by simp (disch := omega) only [z_up, if_pos, if_neg, ite_true, ite_false, and_self, and_true, true_and, and_false, false_and], ?_⟩, z_Key_fr (fr _ (by omega) (by omega)) (fr _ (by omega) (by omega)) d, z_Sht_fr (fun k h1 h2 => fr k (by omega) (by omega)) (fr _ (by omega) (by omega)) (fr _ (by omega) (by omega)) (fr _ (by omega) (by omega)) e, z_Slt_fr (fun k h1 h2 => fr k (by omega) (by omega)) (fr _ (by omega) (by omega)) (fr _ (by omega) (by omega)) (fr _ (by omega) (by omega)) (fr _ (by omega) (by omega)) f, z_Wai_fr (by rw [fr _ (by omega) (by omega)]) (f93 _ (by omega)) (fr _ (by omega) (by omega)) (fr _ (by omega) (by omega)) g, z_Ask_fr (f93 _ (by omega)) (fr _ (by omega) (by omega)) ⟨q, by omega, i1, i2⟩, z_Lws_fr (by rw [fr _ (by omega) (by omega)]) (fr _ (by omega) (by omega)) (fr _ (by omega) (by omega)) (by rw [fr _ (by omega) (by omega)]) (by rw [fr _ (by omega) (by omega)]) ⟨⟨x, by omega, hx2, hx3⟩, h4⟩⟩
      intro i hi
      rw [fr 17 (by omega) (by omega), fr 110 (by omega) (by omega)]
      exact t3 i (by omega)
theorem op_tell : Op_tell Inv := by
  intro n M a hn hI
  have hI' := hI
  obtain ⟨st, b, c, d, e, f, ⟨w, hw, t1, t2, t3⟩, ⟨q, hq, i1, i2⟩, ⟨⟨x, hx, hx2, hx3⟩, h4⟩⟩ := hI'
  by_cases o : w < 60
  · obtain ⟨M1, hM1⟩ : ∃ M1, M1 = bw_up (bw_up M 20 w a) 0 10 (nI (w + 1)) := ⟨_, rfl⟩
    obtain ⟨M2, hM2⟩ : ∃ M2, M2 = bw_up (bw_up M1 128 w a) 93 54 (nI (w + 1)) := ⟨_, rfl⟩
    refine ⟨nI (w + 1), M1, M2, ?_, ?_, ?_⟩
    · rw [hM1]; unfold f_X9_tell; simp (disch := omega) only [t1, l_0, l_1, l_2, l_3, l_4, l_5, l_6, l_7, l_8, l_9, l_10, l_11, l_12, l_13, l_14, l_15, l_16, l_17, l_18, l_19, l_20, l_21, l_22, l_23, l_24, l_25, l_26, l_27, l_28, l_29, l_30, l_31, l_33, l_38, l_40, l_41, l_42, l_43, l_45, l_47, l_48, l_57, l_60, l_61, l_62, l_96, l_97, l_99, l_100, l_101, l_104, l_108, l_110, l_112, l_121, l_122, l_124, l_158, l_186, l_255, l_336, l_999, l_1000, l_1530, l_9999, l_10000, l_99999, z_ml, nI_add, pk_sub, pk_mul, nI_clamp, nI_ltI, nI_leI, nI_eq, z_ib, z_in, z_up, z_up_k, if_pos, if_neg, ite_true, ite_false, and_self, and_true, true_and, and_false, false_and, Nat.add_sub_cancel, Nat.reduceAdd, Nat.reduceMul, Option.bind_some, eq_self]
    · have : M1 93 54 = nI w := by rw [hM1]; simp (disch := omega) only [z_up_k]; exact t2
      rw [hM2]; unfold f_X10_tell; simp (disch := omega) only [this, l_0, l_1, l_2, l_3, l_4, l_5, l_6, l_7, l_8, l_9, l_10, l_11, l_12, l_13, l_14, l_15, l_16, l_17, l_18, l_19, l_20, l_21, l_22, l_23, l_24, l_25, l_26, l_27, l_28, l_29, l_30, l_31, l_33, l_38, l_40, l_41, l_42, l_43, l_45, l_47, l_48, l_57, l_60, l_61, l_62, l_96, l_97, l_99, l_100, l_101, l_104, l_108, l_110, l_112, l_121, l_122, l_124, l_158, l_186, l_255, l_336, l_999, l_1000, l_1530, l_9999, l_10000, l_99999, z_ml, nI_add, pk_sub, pk_mul, nI_clamp, nI_ltI, nI_leI, nI_eq, z_ib, z_in, z_up, z_up_k, if_pos, if_neg, ite_true, ite_false, and_self, and_true, true_and, and_false, false_and, Nat.add_sub_cancel, Nat.reduceAdd, Nat.reduceMul, Option.bind_some, eq_self]
    · have fr : ∀ k, k ≠ 0 → k ≠ 20 → k ≠ 128 → k ≠ 93 → M2 k = M k := by
        intro k h1 h2 h3 h4; rw [hM2, hM1]; simp (disch := omega) only [z_up_k]
      have f93 : ∀ k, k ≠ 54 → M2 93 k = M 93 k := by
        intro k h1; rw [hM2, hM1]; simp (disch := omega) only [z_up, if_pos, if_neg, ite_true, ite_false, and_self, and_true, true_and, and_false, false_and]
      have f0 : ∀ k, k ≠ 10 → M2 0 k = M 0 k := by
        intro k h1; rw [hM2, hM1]; simp (disch := omega) only [z_up, if_pos, if_neg, ite_true, ite_false, and_self, and_true, true_and, and_false, false_and]
      obtain ⟨s, u, hS⟩ := st
      have hLE : z_LE M M2 := fun c => ⟨fr _ (by omega) (by omega) (by omega) (by omega), fr _ (by omega) (by omega) (by omega) (by omega), by rw [fr _ (by omega) (by omega) (by omega) (by omega)]⟩
      have fs : ∀ k, 25 ≤ k → k < 93 → M2 k = M k := fun k _ _ => fr k (by omega) (by omega) (by omega) (by omega)
      have fm : ∀ k, 93 < k → k < 128 → M2 k = M k := fun k _ _ => fr k (by omega) (by omega) (by omega) (by omega)
      refine ⟨⟨s, u, z_Stk_fr (fm _ (by omega) (by omega)) (fun k h1 h2 => fs k (by omega) (by omega)) hLE hS⟩, z_Img_fr (f0 _ (by omega)) (f93 _ (by omega)) (fm _ (by omega) (by omega)) (fun k h1 h2 => fs k (by omega) (by omega)) hLE b, z_Tap_fr (by rw [fr _ (by omega) (by omega) (by omega) (by omega)]) (f93 _ (by omega)) (fr _ (by omega) (by omega) (by omega) (by omega)) (fm _ (by omega) (by omega)) c, z_Key_fr (fm _ (by omega) (by omega)) (fm _ (by omega) (by omega)) d, z_Sht_fr (fun k h1 h2 => fs k (by omega) (by omega)) (fm _ (by omega) (by omega)) (fm _ (by omega) (by omega)) (fm _ (by omega) (by omega)) e, z_Slt_fr (fun k h1 h2 => fs k (by omega) (by omega)) (fm _ (by omega) (by omega)) (fm _ (by omega) (by omega)) (fm _ (by omega) (by omega)) (fm _ (by omega) (by omega)) f, ⟨w + 1, by omega, ?_, ?_, ?_⟩, z_Ask_fr (f93 _ (by omega)) (fm _ (by omega) (by omega)) ⟨q, by omega, i1, i2⟩, z_Lws_fr (f0 _ (by omega)) (fs _ (by omega) (by omega)) (fs _ (by omega) (by omega)) (by rw [fr _ (by omega) (by omega) (by omega) (by omega)]) (by rw [fr _ (by omega) (by omega) (by omega) (by omega)]) ⟨⟨x, by omega, hx2, hx3⟩, h4⟩⟩
      · rw [hM2, hM1]; simp (disch := omega) only [z_up, if_pos, if_neg, ite_true, ite_false, and_self, and_true, true_and, and_false, false_and]
      · rw [hM2, hM1]; simp (disch := omega) only [z_up, if_pos, if_neg, ite_true, ite_false, and_self, and_true, true_and, and_false, false_and]
      · intro i hi
        rw [hM2, hM1]
        by_cases g : i = w
        · subst g; simp (disch := omega) only [z_up, if_pos, if_neg, ite_true, ite_false, and_self, and_true, true_and, and_false, false_and]
        · simp (disch := omega) only [z_up, if_pos, if_neg, ite_true, ite_false, and_self, and_true, true_and, and_false, false_and]; exact t3 i (by omega)
  · have : w = 60 := by omega
    subst this
    refine ⟨-1000000003, M, M, ?_, ?_, z_nochange hI⟩
    · unfold f_X9_tell; rw [t1, if_neg (by decide)]
    · unfold f_X10_tell; rw [t2, if_pos (by decide)]
