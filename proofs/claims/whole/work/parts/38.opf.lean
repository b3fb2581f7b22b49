/-! level 2: feed, sheet, mark -/
theorem z_Inv_oth {M M' : Mem} {n : Nat} (hI : Inv n M) (fr : ∀ k, (1 ≤ k ∧ k ≤ 15) ∨ (25 ≤ k ∧ k ≤ 64) ∨ (94 ≤ k ∧ k ≤ 109) ∨ k = 111 ∨ k = 112 ∨ 129 ≤ k → M' k = M k) (f0 : ∀ k, k ≠ 10 → M' 0 k = M 0 k) (f93 : ∀ k, k ≠ 26 → k ≠ 54 → M' 93 k = M 93 k) (tap : z_Tap M') (sht : z_Sht M') (slt : z_Slt M') (wai : z_Wai M') : Inv (n + 1) M' := by
  obtain ⟨⟨s, u, hS⟩, b, c, d, e, f, g, ⟨q, hq, i1, i2⟩, ⟨⟨x, hx, hx2, hx3⟩, h4⟩⟩ := hI
  have hLE : z_LE M M' := fun c => ⟨fr _ (by omega), fr _ (by omega), by rw [fr _ (by omega)]⟩
  exact ⟨⟨s, u, z_Stk_fr (fr _ (by omega)) (fun k h1 h2 => fr k (by omega)) hLE hS⟩, z_Img_fr (f0 _ (by omega)) (f93 _ (by omega) (by omega)) (fr _ (by omega)) (fun k h1 h2 => fr k (by omega)) hLE b, tap, z_Key_fr (fr _ (by omega)) (fr _ (by omega)) d, sht, slt, wai, z_Ask_fr (f93 _ (by omega) (by omega)) (fr _ (by omega)) ⟨q, by omega, i1, i2⟩, z_Lws_fr (f0 _ (by omega)) (fr _ (by omega)) (fr _ (by omega)) (by rw [fr _ (by omega)]) (by rw [fr _ (by omega)]) ⟨⟨x, by omega, hx2, hx3⟩, h4⟩⟩
theorem z_bya (x : Int32) (k : Nat) (s1 s2 : Int32) (hk : k = 0 ∨ k = 8 ∨ k = 16 ∨ k = 24) (h1 : ((s1.toUInt32 &&& Int32.toUInt32 31).toBitVec % 32).toNat = k) (h2 : (s2.toBitVec.smod 32).toNat = k) : bw_ushr x s1 &&& 255 = (x >>> s2) &&& 255 ∧ ∃ b, b < 256 ∧ bw_ushr x s1 &&& 255 = nI b := by
  have e1 := pk_ushr x s1 k h1
  have e2 := pk_shr x s2 k h2
  have a1 := pk_and (bw_ushr x s1) (m := 255) 8 (by decide)
  have a2 := pk_and (x >>> s2) (m := 255) 8 (by decide)
  have l1 := x.toBitVec.isLt
  have l2 := (x >>> s2).toBitVec.isLt
  have t1 : x.toInt = if 2 * x.toBitVec.toNat < 2 ^ 32 then (x.toBitVec.toNat : Int) else (x.toBitVec.toNat : Int) - 2 ^ 32 := BitVec.toInt_eq_toNat_cond x.toBitVec
  have t2 : (x >>> s2).toInt = if 2 * (x >>> s2).toBitVec.toNat < 2 ^ 32 then ((x >>> s2).toBitVec.toNat : Int) else ((x >>> s2).toBitVec.toNat : Int) - 2 ^ 32 := BitVec.toInt_eq_toNat_cond (x >>> s2).toBitVec
  refine ⟨?_, (bw_ushr x s1).toBitVec.toNat % 2 ^ 8, by omega, a1⟩
  rw [a1, a2]
  congr 1
  unfold bw_ushr
  rw [e1]
  rw [Int.shiftRight_eq_div_pow] at e2
  generalize x.toBitVec.toNat = X at *
  generalize (x >>> s2).toBitVec.toNat = Y at *
  generalize (x >>> s2).toInt = yi at *
  generalize x.toInt = xi at *
  rcases hk with rfl | rfl | rfl | rfl <;> (split at t1 <;> split at t2 <;> omega)
def z_fw (a b c : Int32) (i : Nat) : Int32 := if i < 4 then a else if i < 8 then b else c
def z_fb (a b c : Int32) (i : Nat) : Int32 := bw_ushr (z_fw a b c i) (nI (24 - 8 * (i % 4))) &&& 255
theorem z_fb1 (a b c : Int32) (i : Nat) (hi : i < 12) : z_fb a b c i = (z_fw a b c i >>> (((24 : Int32) - ((8 : Int32) * (bw_rem (nI i) (4 : Int32)))) &&& 31)) &&& 255 ∧ ∃ q, q < 256 ∧ z_fb a b c i = nI q := by
  unfold z_fb
  rcases (by omega : i = 0 ∨ i = 1 ∨ i = 2 ∨ i = 3 ∨ i = 4 ∨ i = 5 ∨ i = 6 ∨ i = 7 ∨ i = 8 ∨ i = 9 ∨ i = 10 ∨ i = 11) with rfl | rfl | rfl | rfl | rfl | rfl | rfl | rfl | rfl | rfl | rfl | rfl
  · exact z_bya _ 24 _ _ (by omega) (by decide) (by decide)
  · exact z_bya _ 16 _ _ (by omega) (by decide) (by decide)
  · exact z_bya _ 8 _ _ (by omega) (by decide) (by decide)
  · exact z_bya _ 0 _ _ (by omega) (by decide) (by decide)
  · exact z_bya _ 24 _ _ (by omega) (by decide) (by decide)
  · exact z_bya _ 16 _ _ (by omega) (by decide) (by decide)
  · exact z_bya _ 8 _ _ (by omega) (by decide) (by decide)
  · exact z_bya _ 0 _ _ (by omega) (by decide) (by decide)
  · exact z_bya _ 24 _ _ (by omega) (by decide) (by decide)
  · exact z_bya _ 16 _ _ (by omega) (by decide) (by decide)
  · exact z_bya _ 8 _ _ (by omega) (by decide) (by decide)
  · exact z_bya _ 0 _ _ (by omega) (by decide) (by decide)
theorem z_m8 (a : Nat) : nI (a + 8) + -8 = nI a := by
  rw [← nI_add, Int32.add_assoc, show nI 8 + -8 = 0 from by decide, Int32.add_zero]
theorem z_cAd4 (v : Int32) : ∀ r fu (M : Mem) (L : Nat), M 16 1 = nI L → L + r ≤ 96 → r < fu → r ≤ 4 → ∃ M', f_X7_add_L3 v fu (nI (8 * r) + -8) M = some M' ∧ M' 16 1 = nI (L + r) ∧ (∀ x, x ≠ 1 → M' 16 x = M 16 x) ∧ (∀ i, i < L → M' 17 i = M 17 i) ∧ (∀ i, i < r → M' 17 (L + i) = bw_ushr v (nI (8 * (r - 1 - i))) &&& 255) ∧ ∀ b, b ≠ 16 → b ≠ 17 → M' b = M b := by
  intro r
  induction r with
  | zero =>
    intro fu M L h1 h2 h3 h4
    obtain ⟨fu, rfl⟩ : ∃ f, fu = f + 1 := ⟨fu - 1, by omega⟩
    refine ⟨M, ?_, h1, fun _ _ => rfl, fun _ _ => rfl, fun i hi => by omega, fun _ _ _ => rfl⟩
    rw [f_X7_add_L3, if_pos (by decide)]
  | succ r ih =>
    intro fu M L h1 h2 h3 h4
    obtain ⟨fu, rfl⟩ : ∃ f, fu = f + 1 := ⟨fu - 1, by omega⟩
    obtain ⟨M1, hM1⟩ : ∃ M1, M1 = bw_up (bw_up M 17 L (bw_ushr v (nI (8 * r)) &&& 255)) 16 1 (nI (L + 1)) := ⟨_, rfl⟩
    obtain ⟨M', e1, e2, e3, e4, e5, e6⟩ := ih fu M1 (L + 1) (by rw [hM1, z_up_s]) (by omega) (by omega) (by omega)
    refine ⟨M', ?_, ?_, ?_, ?_, ?_, ?_⟩
    · rw [f_X7_add_L3, show 8 * (r + 1) = 8 * r + 8 by omega, z_m8, if_neg (nI_pos (by omega)), h1, l_96, if_neg (nI_ge (by omega) (by omega)), z_ib (by omega) (by omega), if_pos rfl, nI_clamp (by omega), z_ml, z_ml, z_up_k _ _ _ _ (by omega), h1, nI_1, ← hM1]
      exact e1
    · rw [e2]; congr 1; omega
    · intro x hx; rw [e3 x hx, hM1]; simp (disch := omega) only [z_up, if_pos, if_neg, ite_true, ite_false, and_self, and_true, true_and, and_false, false_and]
    · intro i hi; rw [e4 i (by omega), hM1]; simp (disch := omega) only [z_up, if_pos, if_neg, ite_true, ite_false, and_self, and_true, true_and, and_false, false_and]
    · intro i hi
      by_cases g : i = 0
      · subst g
        rw [Nat.add_zero, e4 L (by omega), hM1]
        simp (disch := omega) only [z_up, if_pos, if_neg, ite_true, ite_false, and_self, and_true, true_and, and_false, false_and]
        rfl
      · have := e5 (i - 1) (by omega)
        rw [show L + 1 + (i - 1) = L + i by omega] at this
        rw [this]
        congr 3
        omega
    · intro b h1 h2; rw [e6 b h1 h2, hM1]; simp (disch := omega) only [z_up_k]
theorem z_cAd {M : Mem} {L : Nat} (v : Int32) (h1 : M 16 1 = nI L) (h2 : L + 4 ≤ 96) : ∃ M', f_X7_add M v = some M' ∧ M' 16 1 = nI (L + 4) ∧ (∀ x, x ≠ 1 → M' 16 x = M 16 x) ∧ (∀ i, i < L → M' 17 i = M 17 i) ∧ (∀ i, i < 4 → M' 17 (L + i) = bw_ushr v (nI (8 * (4 - 1 - i))) &&& 255) ∧ ∀ b, b ≠ 16 → b ≠ 17 → M' b = M b := by
  have := z_cAd4 v 4 bw_fu M L h1 h2 (by decide) (by omega)
  unfold f_X7_add
  exact this
theorem z_mFeed (a b c : Int32) {L : Nat} (hL : L + 12 ≤ 96) : ∀ r i fu (M : Mem), M 93 26 = nI L → i + r = 12 → r < fu → ∃ M', f_X10_feed_L18 a b c fu (nI i) M = some (nI (L + 12), M') ∧ M' 93 26 = nI (L + 12) ∧ (∀ x, x ≠ 26 → M' 93 x = M 93 x) ∧ (∀ k, i ≤ k → k < 12 → M' 110 (L + k) = z_fb a b c k) ∧ (∀ k, k < L + i → M' 110 k = M 110 k) ∧ ∀ b, b ≠ 93 → b ≠ 110 → M' b = M b := by
  intro r
  induction r with
  | zero =>
    intro i fu M h1 h2 h3
    obtain ⟨fu, rfl⟩ : ∃ f, fu = f + 1 := ⟨fu - 1, by omega⟩
    refine ⟨bw_up M 93 26 (nI (L + 12)), ?_, z_up_s _ _ _ _, fun x hx => z_up_i _ _ _ _ hx, fun k h4 h5 => by omega, fun k _ => by rw [z_up_k _ _ _ _ (by omega)], fun b h4 h5 => z_up_k _ _ _ _ h4⟩
    rw [f_X10_feed_L18, l_12, if_pos (nI_le (by omega) (by omega)), z_ml, h1, nI_add, z_up_s]
  | succ r ih =>
    intro i fu M h1 h2 h3
    obtain ⟨fu, rfl⟩ : ∃ f, fu = f + 1 := ⟨fu - 1, by omega⟩
    obtain ⟨M', e1, e2, e3, e4, e5, e6⟩ := ih (i + 1) fu (bw_up M 110 (L + i) (z_fb a b c i)) (by rw [z_up_k _ _ _ _ (by omega)]; exact h1) (by omega) (by omega)
    have hw : (if (4 : Int32) ≤ nI i then (if (8 : Int32) ≤ nI i then c else b) else a) = z_fw a b c i := by
      unfold z_fw
      rw [l_4, l_8]
      by_cases g : i < 4
      · rw [if_pos g, if_neg (nI_ge (by omega) (by omega))]
      · rw [if_neg g, if_pos (nI_le (by omega) (by omega))]
        by_cases g2 : i < 8
        · rw [if_pos g2, if_neg (nI_ge (by omega) (by omega))]
        · rw [if_neg g2, if_pos (nI_le (by omega) (by omega))]
    refine ⟨M', ?_, e2, ?_, ?_, ?_, ?_⟩
    · rw [f_X10_feed_L18, hw, l_12, if_neg (nI_ge (by omega) (by omega)), z_ml, h1, nI_add, z_ib (by omega) (by omega), if_pos rfl, nI_clamp (by omega), z_ml, ← (z_fb1 a b c i (by omega)).1, nI_1]
      exact e1
    · intro x hx; rw [e3 x hx, z_up_k _ _ _ _ (by omega)]
    · intro k h4 h5
      by_cases g : k = i
      · subst g; rw [e5 (L + k) (by omega), z_up_s]
      · exact e4 k (by omega) h5
    · intro k hk; rw [e5 k (by omega), z_up_i _ _ _ _ (by omega)]
    · intro b h4 h5; rw [e6 b h4 h5, z_up_k _ _ _ _ h5]
theorem op_feed : Op_feed Inv := by
  intro n M a b c hn hI
  have hI' := hI
  obtain ⟨-, -, ⟨L, hL, t1, t2, t3⟩, -, sht, slt, wai, -⟩ := hI'
  by_cases g : L ≤ 84
  · obtain ⟨Ma, a1, a2, a3, a4, a5, a6⟩ := z_cAd a t1 (by omega)
    obtain ⟨Mb, b1, b2, b3, b4, b5, b6⟩ := z_cAd b a2 (by omega)
    obtain ⟨Mc, c1, c2, c3, c4, c5, c6⟩ := z_cAd c b2 (by omega)
    obtain ⟨M2, e1, e2, e3, e4, e5, e6⟩ := z_mFeed a b c (L := L) (by omega) 12 0 bw_fu Mc (by rw [c6 93 (by omega) (by omega), b6 93 (by omega) (by omega), a6 93 (by omega) (by omega)]; exact t2) (by omega) (by decide)
    refine ⟨nI (L + 12), Mc, M2, ?_, ?_, ?_⟩
    · unfold f_X9_feed
      rw [t1, show (84 : Int32) = nI 84 from rfl, if_pos (nI_le (by omega) (by omega)), a1, Option.bind_some, b1, Option.bind_some, c1, Option.bind_some, c2]
    · unfold f_X10_feed
      rw [c6 93 (by omega) (by omega), b6 93 (by omega) (by omega), a6 93 (by omega) (by omega), t2, l_12, nI_add, l_96, if_pos (nI_le (by omega) (by omega)), l_0, e1]
    · have fr : ∀ k, k ≠ 16 → k ≠ 17 → k ≠ 93 → k ≠ 110 → M2 k = M k := by
        intro k h1 h2 h3 h4
        rw [e6 k h3 h4, c6 k h1 h2, b6 k h1 h2, a6 k h1 h2]
      refine z_Inv_oth hI (fun k hk => fr k (by omega) (by omega) (by omega) (by omega)) (fun k _ => by rw [fr 0 (by omega) (by omega) (by omega) (by omega)]) (fun k h1 _ => by rw [e3 k h1, c6 93 (by omega) (by omega), b6 93 (by omega) (by omega), a6 93 (by omega) (by omega)]) ?_ (z_Sht_fr (fun k h1 h2 => fr k (by omega) (by omega) (by omega) (by omega)) (fr _ (by omega) (by omega) (by omega) (by omega)) (fr _ (by omega) (by omega) (by omega) (by omega)) (fr _ (by omega) (by omega) (by omega) (by omega)) sht) (z_Slt_fr (fun k h1 h2 => fr k (by omega) (by omega) (by omega) (by omega)) (fr _ (by omega) (by omega) (by omega) (by omega)) (fr _ (by omega) (by omega) (by omega) (by omega)) (fr _ (by omega) (by omega) (by omega) (by omega)) (fr _ (by omega) (by omega) (by omega) (by omega)) slt) (z_Wai_fr (by rw [fr 0 (by omega) (by omega) (by omega) (by omega)]) (by rw [e3 _ (by omega), c6 93 (by omega) (by omega), b6 93 (by omega) (by omega), a6 93 (by omega) (by omega)]) (fr _ (by omega) (by omega) (by omega) (by omega)) (fr _ (by omega) (by omega) (by omega) (by omega)) wai)
      refine ⟨L + 12, by omega, ?_, e2, ?_⟩
      · rw [e6 16 (by omega) (by omega), c2]
      · intro i hi
        have r17 : M2 17 i = Mc 17 i := by rw [e6 17 (by omega) (by omega)]
        rw [r17]
        by_cases g0 : i < L
        · rw [e5 i (by omega), c6 110 (by omega) (by omega), b6 110 (by omega) (by omega), a6 110 (by omega) (by omega), c4 i (by omega), b4 i (by omega), a4 i g0]
          exact t3 i g0
        · have cv : Mc 17 i = z_fb a b c (i - L) := by
            unfold z_fb z_fw
            by_cases g1 : i - L < 4
            · rw [c4 i (by omega), b4 i (by omega)]
              have := a5 (i - L) g1
              rw [show L + (i - L) = i by omega] at this
              rw [this, if_pos g1]; congr 3; omega
            · rw [if_neg g1]
              by_cases g2 : i - L < 8
              · rw [c4 i (by omega)]
                have := b5 (i - L - 4) (by omega)
                rw [show L + 4 + (i - L - 4) = i by omega] at this
                rw [this, if_pos g2]; congr 3; omega
              · have := c5 (i - L - 8) (by omega)
                rw [show L + 4 + 4 + (i - L - 8) = i by omega] at this
                rw [this, if_neg g2]; congr 3; omega
          have mv := e4 (i - L) (by omega) (by omega)
          rw [show L + (i - L) = i by omega] at mv
          rw [cv, mv]
          exact ⟨rfl, (z_fb1 a b c (i - L) (by omega)).2⟩
  · refine ⟨-1000000003, M, M, ?_, ?_, z_nochange hI⟩
    · unfold f_X9_feed
      rw [t1, show (84 : Int32) = nI 84 from rfl, if_neg (nI_ge (by omega) (by omega))]
    · unfold f_X10_feed
      rw [t2, l_12, nI_add, l_96, if_neg (nI_ge (by omega) (by omega))]
