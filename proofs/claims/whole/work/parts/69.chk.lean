/-! level 2: check -/
def z_rS (wt : Nat → Int32) (many : Nat) (lg : Option TU) (la : Nat → Option Nat) (ln : Nat → Nat) (len : Nat) : Nat → Nat → Nat → (Nat → Int32) → Nat
  | 0, _, right, _ => right
  | r + 1, y, right, F => if many ≤ right then right else if wt right = nI (z_am (z_gr lg la ln y 8 0 F) (len - 1) 1 0) then (if many ≤ right + 1 then right + 1 else if wt (right + 1) = z_gr lg la ln y 8 0 F (z_am (z_gr lg la ln y 8 0 F) (len - 1) 1 0) then z_rS wt many lg la ln len r (y + 1) (right + 2) (z_gr lg la ln y 8 0 F) else right + 1) else right
theorem z_rS_le {wt : Nat → Int32} {many : Nat} {lg : Option TU} {la : Nat → Option Nat} {ln : Nat → Nat} {len : Nat} : ∀ r y right F, z_rS wt many lg la ln len r y right F ≤ right + 2 * r := by
  intro r
  induction r with
  | zero => intro y right F; simp [z_rS]
  | succ r ih =>
    intro y right F
    rw [z_rS]
    split
    · omega
    · split
      · split
        · omega
        · split
          · have := ih (y + 1) (right + 2) (z_gr lg la ln y 8 0 F); omega
          · omega
      · omega
section
variable {len m many : Nat} {ln : Nat → Nat} {la : Nat → Option Nat} {lg : Option TU} {s : Nat → Nat} {wt : Nat → Int32}
theorem z_cRt (hl : len ≤ 24) (h1 : 1 ≤ len) (hla : ∀ p b, la p = some b → ln b < len) {n : Nat} (hn : n ≤ 30) (hmany : many ≤ 60) : ∀ r y right fu (M : Mem) (F : Nat → Int32), y + r = n + 1 → r < fu → z_CY len ln la lg F M → (∀ i, i < many → M 20 i = wt i) → right ≤ 60 → ∃ M', f_X9_rightOnes_L20 (nI n) (nI many) fu (nI right) (nI y) M = some (nI (z_rS wt many lg la ln len r y right F), M') ∧ z_Cf M M' ∧ ∀ k, 1 ≤ k → k ≤ 24 → k ≠ 12 → M' k = M k := by
  intro r
  induction r with
  | zero =>
    intro y right fu M F h2 h3 hy hw hr
    obtain ⟨fu, rfl⟩ : ∃ f, fu = f + 1 := ⟨fu - 1, by omega⟩
    refine ⟨M, ?_, z_Cf_r M, fun _ _ _ _ => rfl⟩
    rw [f_X9_rightOnes_L20, if_pos (nI_lt (by omega) (by omega))]; rfl
  | succ r ih =>
    intro y right fu M F h2 h3 hy hw hr
    obtain ⟨fu, rfl⟩ : ∃ f, fu = f + 1 := ⟨fu - 1, by omega⟩
    obtain ⟨M1, e1, e2, e3, e4⟩ := z_cGrow (y := y) hl (by omega) hla hy
    obtain ⟨t1, t2⟩ := z_cTk hl h1 e2
    have w20 : M1 20 = M 20 := e3.1 20 (by omega)
    rw [f_X9_rightOnes_L20, if_neg (nI_nlt (by omega) (by omega)), e1, Option.bind_some, z_rS]
    by_cases g1 : many ≤ right
    · rw [if_pos (nI_le g1 (by omega)), if_pos g1]
      exact ⟨M1, rfl, e3, e4⟩
    · rw [if_neg (nI_ge (by omega) (by omega)), if_neg g1, z_ib (by omega) (by omega), if_pos rfl, t1, Option.bind_some, nI_clamp (by omega), w20, hw right (by omega), nI_1]
      by_cases g2 : wt right = nI (z_am (z_gr lg la ln y 8 0 F) (len - 1) 1 0)
      · rw [if_pos g2, if_pos g2]
        by_cases g3 : many ≤ right + 1
        · rw [if_pos (nI_le g3 (by omega)), if_pos g3]
          exact ⟨M1, rfl, e3, e4⟩
        · rw [if_neg (nI_ge (by omega) (by omega)), if_neg g3, z_ib (by omega) (by omega), if_pos rfl, t2, Option.bind_some, nI_clamp (by omega), hw (right + 1) (by omega)]
          by_cases g4 : wt (right + 1) = z_gr lg la ln y 8 0 F (z_am (z_gr lg la ln y 8 0 F) (len - 1) 1 0)
          · rw [if_pos g4, if_pos g4, nI_1, nI_1]
            obtain ⟨M', f1, f2, f3⟩ := ih (y + 1) (right + 2) fu M1 _ (by omega) (by omega) e2 (by rw [w20]; exact hw) (by omega)
            exact ⟨M', f1, z_Cf_t e3 f2, fun k a1 a2 a3 => by rw [f3 k a1 a2 a3, e4 k a1 a2 a3]⟩
          · rw [if_neg g4, if_neg g4]
            exact ⟨M1, rfl, e3, e4⟩
      · rw [if_neg g2, if_neg g2]
        exact ⟨M1, rfl, e3, e4⟩
theorem z_mStop {n x y fu : Nat} {v2 : Int32} {M : Mem} (hn : n ≤ 30) (hy : y ≤ 30) (hx : x < 2 * y) (hf : 0 < fu) : f_X10_rightYears_L5 (nI n) v2 fu (nI x) (nI (y + 1)) M = some (nI x, M) := by
  obtain ⟨fu, rfl⟩ : ∃ f, fu = f + 1 := ⟨fu - 1, by omega⟩
  rw [f_X10_rightYears_L5]
  by_cases g : n < y + 1
  · rw [if_pos (nI_lt g (by omega))]
  · rw [if_neg (nI_nlt (by omega) (by omega)), l_2, pk_mul, pk_sub (by omega), if_neg (z_neI (by omega) (by omega) (by omega))]
theorem z_a0 (x : Int32) : x + 0 = x := Int32.add_zero x
theorem z_mRt (hl : len ≤ 24) (h1 : 1 ≤ len) (hm : m ≤ 24) (hB : ∀ i, i < m → s (16 + 4 * i) ≤ 7) (hln : ∀ b, b < m → ln b < len) {n : Nat} (hn : n ≤ 30) (hmany : many ≤ 60) : ∀ r y right fu (M : Mem) (F : Nat → Int32), y + r = n + 1 → r + 1 < fu → 1 ≤ y → right + 2 = 2 * y → z_MY len m ln lg s F M → (∀ i, i < many → M 128 i = wt i) → ∃ M', f_X10_rightYears_L5 (nI n) (nI many) fu (nI right) (nI y) M = some (nI (z_rS wt many lg (fun p => z_lb s p m) ln len r y right F), M') ∧ z_Mf M M' ∧ M' 93 = M 93 ∧ M' 96 = M 96 ∧ M' 102 = M 102 := by
  intro r
  induction r with
  | zero =>
    intro y right fu M F h2 h3 hy1 hr hy hw
    obtain ⟨fu, rfl⟩ : ∃ f, fu = f + 1 := ⟨fu - 1, by omega⟩
    refine ⟨M, ?_, z_Mf_r M, rfl, rfl, rfl⟩
    rw [f_X10_rightYears_L5, if_pos (nI_lt (by omega) (by omega))]; rfl
  | succ r ih =>
    intro y right fu M F h2 h3 hy1 hr hy hw
    obtain ⟨fu, rfl⟩ : ∃ f, fu = f + 1 := ⟨fu - 1, by omega⟩
    obtain ⟨M1, e1, e2, e3, e4, e5⟩ := z_mGrow (y := y) hl hm (by omega) hB hln hy
    obtain ⟨t1, t2, t3⟩ := z_mTk hl h1 e2
    have w128 : M1 128 = M 128 := e3.1 128 (by omega)
    have k96 : M1 96 = M 96 := e5 96 (by omega) (by omega) (by omega) (by omega) (by omega)
    have k102 : M1 102 = M 102 := e5 102 (by omega) (by omega) (by omega) (by omega) (by omega)
    have s2 : (2 : Int32) * nI y - 2 = nI right := by rw [l_2, pk_mul, pk_sub (by omega)]; congr 1; omega
    have s1 : (2 : Int32) * nI y - 1 = nI (right + 1) := by rw [l_2, l_1, pk_mul, pk_sub (by omega)]; congr 1; omega
    rw [f_X10_rightYears_L5, if_neg (nI_nlt (by omega) (by omega)), s2, if_pos rfl, e1, Option.bind_some, t1, Option.bind_some, s1, z_a0, z_a0, nI_1, z_rS]
    by_cases g1 : many ≤ right
    · rw [if_pos (nI_le g1 (by omega)), if_pos g1, if_neg (z_neI (by omega) (by omega) (by omega)), z_ml, z_mStop hn (by omega) (by omega) (by omega)]
      exact ⟨M1, rfl, e3, e4, k96, k102⟩
    · rw [if_neg (nI_ge (by omega) (by omega)), if_neg g1, z_ib (by omega) (by omega), if_pos rfl, nI_clamp (by omega), w128, hw right (by omega), z_ml]
      by_cases g2 : wt right = nI (z_am (z_gr lg (fun p => z_lb s p m) ln y 8 0 F) (len - 1) 1 0)
      · rw [if_pos g2, if_pos g2, nI_1, if_pos rfl]
        by_cases g3 : many ≤ right + 1
        · rw [if_pos (nI_le g3 (by omega)), if_pos g3, z_a0, z_mStop hn (by omega) (by omega) (by omega)]
          exact ⟨M1, rfl, e3, e4, k96, k102⟩
        · rw [if_neg (nI_ge (by omega) (by omega)), if_neg g3, z_ib (by omega) (by omega), if_pos rfl, z_ib (by omega) (by omega), if_pos rfl, nI_clamp (by omega), nI_clamp (by omega), hw (right + 1) (by omega), t3, z_ml]
          by_cases g4 : wt (right + 1) = z_gr lg (fun p => z_lb s p m) ln y 8 0 F (z_am (z_gr lg (fun p => z_lb s p m) ln y 8 0 F) (len - 1) 1 0)
          · rw [if_pos g4, if_pos g4, nI_1]
            obtain ⟨M', f1, f2, f3, f4, f5⟩ := ih (y + 1) (right + 2) fu M1 _ (by omega) (by omega) (by omega) (by omega) e2 (by rw [w128]; exact hw)
            exact ⟨M', f1, z_Mf_t e3 f2, by rw [f3, e4], by rw [f4, k96], by rw [f5, k102]⟩
          · rw [if_neg g4, if_neg g4, z_a0, z_mStop hn (by omega) (by omega) (by omega)]
            exact ⟨M1, rfl, e3, e4, k96, k102⟩
      · rw [if_neg g2, if_neg g2, z_a0, if_neg (z_neI (by omega) (by omega) (by omega)), z_a0, z_mStop hn (by omega) (by omega) (by omega)]
        exact ⟨M1, rfl, e3, e4, k96, k102⟩
end
/-- the class's years of any stock: nothing to do, or years -/
theorem z_cYB {n S R : Nat} {M : Mem} {s : Nat → Nat} {u : Nat → TU} (hS : z_Stk M S R s u) (hSl : 25 ≤ S ∧ S ≤ 100) (hR : 25 ≤ R) (hSR : S + 20 ≤ 129 ∧ R < 129) (hL : z_Lws n M) (hl7 : ∀ t, t < 14 → z_Lok M (M (S + 7) t)) {T : (Nat → Option Nat) × (Nat → Nat)} (hT : T = z_out (s 4) (s 1) (z_sH s) (z_sT s) (z_sD s) (z_sf (z_sA s) (s 7)) (z_P (z_lw 0 u (s 6)) (s 2)) (s 4)) {Sl : List Nat} (hSt : Sl = z_st T.2 (s 4) (s 4 + 1) 0) : ∃ Ml M1, f_X2_load M S = some Ml ∧ f_X2_settle Ml = some ((if T.1 0 = none then 0 else 1), M1) ∧ z_Cf M M1 ∧ z_Lok M (M1 1 7) ∧ z_Lok M (M1 11 3) ∧ (T.1 0 ≠ none → M1 1 14 = nI Sl.length) ∧ ∀ ln : Nat → Nat, T.1 0 ≠ none → (∀ b, b < s 4 → ln b < Sl.length ∧ Sl.getD (ln b) (s 4) ≤ b ∧ b < Sl.getD (ln b + 1) (s 4)) → ∃ Mb, f_X8_begin M1 S = some Mb ∧ z_CY Sl.length ln (fun p => z_lb s p (s 4)) (z_lw 2 u (s 6)) (fun k => nI (z_ts (z_sT s) (Sl.getD k (s 4)) (Sl.getD (k + 1) (s 4) - Sl.getD k (s 4)))) Mb ∧ z_Cf M Mb ∧ z_Lok M (Mb 1 7) ∧ z_Lok M (Mb 11 3) ∧ ∀ v, z_lw 2 u (s 6) = some v → v.2.1 = 2 := by
  have hW := hS.1
  obtain ⟨Ml, e1, e2, e3, e4, e5, e6⟩ := z_load (n := n) hS hSl hR hL hl7
  obtain ⟨M1, f1, f2, f3, f4, f5, f6, f7⟩ := z_cSe (z_BdS hW) e2 hT hSt
  have cf : z_Cf M M1 := z_Cf_t e3 f3
  have m11 : M1 11 = M 11 := by rw [f7 11 (by omega) (by omega) (by omega) (by omega) (by omega) (by omega) (by omega), e6 11 (by omega) (by omega)]
  have l11 : z_Lok M (M1 11 3) := by rw [m11]; exact hL.2.2.2
  refine ⟨Ml, M1, e1, f1, cf, z_PlLok f2 cf, l11, fun h => (f5 h).1, ?_⟩
  intro ln nn hln
  obtain ⟨hl, -⟩ := z_LnI hT hSt nn
  have st1 : z_Stk M1 S R s u := z_Stk_fr (cf.1 R (by omega)) (fun k g1 g2 => cf.1 k (by omega)) cf.2 hS
  have lws1 := z_LwsC hL cf (z_PlLok f2 cf) l11
  obtain ⟨Mb, b1, b2, b3, b4, b5, b6⟩ := z_cBg (n := n) st1 hSl hR lws1 (fun t ht => by
    have := hl7 t ht
    unfold z_Lok at this ⊢
    rw [cf.1 0 (by omega), cf.1 (S + 7) (by omega)]; exact this) f2 hl (f5 nn).1 (f5 nn).2 hln
  refine ⟨Mb, b1, b2, z_Cf_t cf b3, ?_, ?_, b6⟩
  · rw [b5 1 (by omega) (by omega) (by omega) (by omega) (by omega)]; exact z_PlLok f2 cf
  · unfold z_Lok at b4 ⊢
    rw [cf.1 0 (by omega)] at b4; exact b4
/-- the model's years of the stock in its row -/
theorem z_mYB {n S : Nat} {M : Mem} {s : Nat → Nat} {u : Nat → TU} (hn : n < 512) (hS : S + 7 < 93) (hW : z_W s) (hM : z_MR M 94 s) (hTx : ∀ t, t < s 6 → z_Txt M S 94 t (u t)) (hA : z_Ask n M) (hk2 : ∀ v, z_lw 2 u (s 6) = some v → v.2.1 = 2) {T : (Nat → Option Nat) × (Nat → Nat)} (hT : T = z_out (s 4) (s 1) (z_sH s) (z_sT s) (z_sD s) (z_sf (z_sA s) (s 7)) (z_P (z_lw 0 u (s 6)) (s 2)) (s 4)) {Sl : List Nat} (hSt : Sl = z_st T.2 (s 4) (s 4 + 1) 0) : ∃ M2, f_X10_beginsYears M = some M2 ∧ z_Mf M M2 ∧ z_Ask (n + 1) M2 ∧ M2 96 = M 96 ∧ M2 93 16 = z_oI (T.1 0) ∧ (T.1 0 = none → M2 93 17 = 0) ∧ (T.1 0 ≠ none → M2 93 17 = nI Sl.length) ∧ ∀ ln : Nat → Nat, T.1 0 ≠ none → (∀ b, b < s 4 → ln b < Sl.length ∧ Sl.getD (ln b) (s 4) ≤ b ∧ b < Sl.getD (ln b + 1) (s 4)) → z_MY Sl.length (s 4) ln (z_lw 2 u (s 6)) s (fun k => nI (z_ts (z_sT s) (Sl.getD k (s 4)) (Sl.getD (k + 1) (s 4) - Sl.getD k (s 4)))) M2 := by
  obtain ⟨q, Ma, Mb, a1, a2, a3, a4, a5, a6, a7, -⟩ := z_mBeg (n := n) hn hW hM hTx hA
  obtain ⟨Mc, M2, g1, g2, g3, g4, g5, g6, g7, g8, g9⟩ := z_mSe (z_BdS hW) a4 hT hSt
  have mf : z_Mf M M2 := z_Mf_t a5 g4
  have se : f_X10_settles M = some M2 := by
    unfold f_X10_settles
    rw [a2, Option.bind_some, a3, Option.bind_some, g1, Option.bind_some, z_ml, g2, Option.bind_some]
  have k96 : M2 96 = M 96 := by rw [g9 96 (by omega) (by omega) (by omega) (by omega) (by omega) (by omega) (by omega) (by omega) (by omega) (by omega), a7 96 (by omega) (by omega) (by omega) (by omega) (by omega)]
  by_cases nn : T.1 0 = none
  · refine ⟨M2, ?_, mf, z_AskMp (by omega) g3, k96, g5, g7, fun h => absurd nn h, fun ln h => absurd nn h⟩
    unfold f_X10_beginsYears
    rw [se, Option.bind_some, show bw_fu = 1999 + 1 from rfl, f_X10_beginsYears_L6, g7 nn, if_pos (by decide)]
  · obtain ⟨f5a, f5b, f5c⟩ := g6 nn
    obtain ⟨hl, -⟩ := z_LnI hT hSt nn
    obtain ⟨ln0, hln0⟩ := z_lnX hl
    have hM2 : z_MR M2 94 s := by intro i b1 b2; rw [mf.1 94 (by omega)]; exact hM i b1 b2
    have hT2 : ∀ t, t < s 6 → z_Txt M2 S 94 t (u t) := fun t ht => z_Txt_fr (mf.1 94 (by omega)) (mf.1 (S + 7) (by omega)) (fun c => ⟨mf.1 _ (by omega), mf.1 _ (by omega), by rw [mf.1 _ (by omega)]⟩) (hTx t ht)
    obtain ⟨M4, j1, j2, j3⟩ := z_mBg (S := S) (ln := ln0) hW hM2 hT2 hk2 g3 hl f5a f5b f5c hln0
    refine ⟨M4, ?_, z_Mf_t mf (z_Mf_b (fun b hb => j3 b (by omega))), z_Ask_fr (by rw [j3 93 (by omega)]) (j3 102 (by omega)) (z_AskMp (by omega) g3), by rw [j3 96 (by omega), k96], by rw [j3 93 (by omega), g5], fun h => absurd h nn, fun _ => by rw [j3 93 (by omega), f5a], ?_⟩
    · unfold f_X10_beginsYears
      rw [se, Option.bind_some, j1]
    · intro ln _ hln
      obtain ⟨M5, i1, i2, i3⟩ := z_mBg (S := S) (ln := ln) hW hM2 hT2 hk2 g3 hl f5a f5b f5c hln
      have : M5 = M4 := by rw [i1] at j1; injection j1
      rw [← this]; exact i2
