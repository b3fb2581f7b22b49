/-! level 2: fullBy, most -/
def z_fbS (lg : Option TU) (la : Nat → Option Nat) (ln : Nat → Nat) (len W : Nat) : Nat → Nat → (Nat → Int32) → Int32
  | 0, _, _ => -1000000005
  | r + 1, y, F => if z_gr lg la ln y 8 0 F (z_am (z_gr lg la ln y 8 0 F) (len - 1) 1 0) ≤ nI W then z_fbS lg la ln len W r (y + 1) (z_gr lg la ln y 8 0 F) else nI y
def z_moS (lg : Option TU) (la : Nat → Option Nat) (ln : Nat → Nat) (len w : Nat) : Nat → Nat → (Nat → Int32) → Int32
  | 0, _, F => if w = 0 then nI (z_am F (len - 1) 1 0) else F (z_am F (len - 1) 1 0)
  | r + 1, y, F => z_moS lg la ln len w r (y + 1) (z_gr lg la ln y 8 0 F)
section
variable {len m W w : Nat} {ln : Nat → Nat} {la : Nat → Option Nat} {lg : Option TU} {s : Nat → Nat}
theorem z_cFb (hl : len ≤ 24) (h1 : 1 ≤ len) (hla : ∀ p b, la p = some b → ln b < len) : ∀ r y fu (M : Mem) (F : Nat → Int32), y + r = 61 → r < fu → z_CY len ln la lg F M → M 25 5 = nI W → ∃ M', f_X9_fullBy_L47 fu (nI y) M = some (z_fbS lg la ln len W r y F, M') ∧ z_Cf M M' ∧ ∀ k, 1 ≤ k → k ≤ 24 → k ≠ 12 → M' k = M k := by
  intro r
  induction r with
  | zero =>
    intro y fu M F h2 h3 hy h5
    obtain ⟨fu, rfl⟩ : ∃ f, fu = f + 1 := ⟨fu - 1, by omega⟩
    refine ⟨M, ?_, z_Cf_r M, fun _ _ _ _ => rfl⟩
    rw [f_X9_fullBy_L47, l_60, if_pos (nI_lt (by omega) (by omega))]; rfl
  | succ r ih =>
    intro y fu M F h2 h3 hy h5
    obtain ⟨fu, rfl⟩ : ∃ f, fu = f + 1 := ⟨fu - 1, by omega⟩
    obtain ⟨M1, e1, e2, e3, e4⟩ := z_cGrow (y := y) hl (by omega) hla hy
    have tk := (z_cTk hl h1 e2).2
    have m25 : M1 25 5 = nI W := by rw [e3.1 25 (by omega)]; exact h5
    rw [f_X9_fullBy_L47, l_60, if_neg (nI_nlt (by omega) (by omega)), e1, Option.bind_some, tk, Option.bind_some, m25, nI_1, z_fbS]
    by_cases g : z_gr lg la ln y 8 0 F (z_am (z_gr lg la ln y 8 0 F) (len - 1) 1 0) ≤ nI W
    · rw [if_pos g, if_pos g]
      obtain ⟨M', f1, f2, f3⟩ := ih (y + 1) fu M1 _ (by omega) (by omega) e2 m25
      exact ⟨M', f1, z_Cf_t e3 f2, fun k g1 g2 g3 => by rw [f3 k g1 g2 g3, e4 k g1 g2 g3]⟩
    · rw [if_neg g, if_neg g]
      exact ⟨M1, rfl, e3, e4⟩
theorem z_cMo (hl : len ≤ 24) (h1 : 1 ≤ len) (hla : ∀ p b, la p = some b → ln b < len) {n : Nat} (hn : n ≤ 60) (hw : w ≤ 1) : ∀ r y fu (M : Mem) (F : Nat → Int32), y + r = n + 1 → r < fu → z_CY len ln la lg F M → ∃ M', f_X9_most_L69 (nI n) (nI w) fu (nI y) M = some (z_moS lg la ln len w r y F, M') ∧ z_Cf M M' ∧ ∀ k, 1 ≤ k → k ≤ 24 → k ≠ 12 → M' k = M k := by
  intro r
  induction r with
  | zero =>
    intro y fu M F h2 h3 hy
    obtain ⟨fu, rfl⟩ : ∃ f, fu = f + 1 := ⟨fu - 1, by omega⟩
    refine ⟨M, ?_, z_Cf_r M, fun _ _ _ _ => rfl⟩
    obtain ⟨t1, t2⟩ := z_cTk hl h1 hy
    rw [f_X9_most_L69, if_pos (nI_lt (by omega) (by omega)), t1, t2, Option.bind_some, Option.bind_some, z_moS]
    by_cases g : w = 0
    · rw [if_pos (show nI w = 0 from congrArg nI g), if_pos g]
    · rw [if_neg (show ¬ nI w = 0 from nI_ne0 (by omega) (by omega)), if_neg g]
  | succ r ih =>
    intro y fu M F h2 h3 hy
    obtain ⟨fu, rfl⟩ : ∃ f, fu = f + 1 := ⟨fu - 1, by omega⟩
    obtain ⟨M1, e1, e2, e3, e4⟩ := z_cGrow (y := y) hl (by omega) hla hy
    rw [f_X9_most_L69, if_neg (nI_nlt (by omega) (by omega)), e1, Option.bind_some, nI_1, z_moS]
    obtain ⟨M', f1, f2, f3⟩ := ih (y + 1) fu M1 _ (by omega) (by omega) e2
    exact ⟨M', f1, z_Cf_t e3 f2, fun k g1 g2 g3 => by rw [f3 k g1 g2 g3, e4 k g1 g2 g3]⟩
theorem z_mFb (hl : len ≤ 24) (h1 : 1 ≤ len) (hm : m ≤ 24) (hB : ∀ i, i < m → s (16 + 4 * i) ≤ 7) (hln : ∀ b, b < m → ln b < len) (hW : s 1 = W) : ∀ r y fu (M : Mem) (F : Nat → Int32), y + r = 61 → r < fu → z_MY len m ln lg s F M → ∃ M', f_X10_fullBy_L23 fu (nI y) M = some (z_fbS lg (fun p => z_lb s p m) ln len W r y F, M') ∧ z_Mf M M' ∧ M' 93 = M 93 ∧ M' 102 = M 102 := by
  intro r
  induction r with
  | zero =>
    intro y fu M F h2 h3 hy
    obtain ⟨fu, rfl⟩ : ∃ f, fu = f + 1 := ⟨fu - 1, by omega⟩
    refine ⟨M, ?_, z_Mf_r M, rfl, rfl⟩
    rw [f_X10_fullBy_L23, l_60, if_pos (nI_lt (by omega) (by omega))]; rfl
  | succ r ih =>
    intro y fu M F h2 h3 hy
    obtain ⟨fu, rfl⟩ : ∃ f, fu = f + 1 := ⟨fu - 1, by omega⟩
    obtain ⟨M1, e1, e2, e3, e4, e5⟩ := z_mGrow (y := y) hl hm (by omega) hB hln hy
    obtain ⟨t1, t2, t3⟩ := z_mTk hl h1 e2
    have m94 : M1 94 1 = nI W := by rw [e2.2.2.2.1 1 (by omega) (by omega), hW]
    rw [f_X10_fullBy_L23, l_60, if_neg (nI_nlt (by omega) (by omega)), e1, Option.bind_some, t1, Option.bind_some, z_ib (by omega) (by omega), if_pos rfl, nI_clamp (by omega), t3, show ((1 : Int32).toNatClampNeg) = 1 from rfl, m94, nI_1, z_fbS]
    by_cases g : z_gr lg (fun p => z_lb s p m) ln y 8 0 F (z_am (z_gr lg (fun p => z_lb s p m) ln y 8 0 F) (len - 1) 1 0) ≤ nI W
    · rw [if_pos g, if_pos g]
      obtain ⟨M', f1, f2, f3, f4⟩ := ih (y + 1) fu M1 _ (by omega) (by omega) e2
      exact ⟨M', f1, z_Mf_t e3 f2, by rw [f3, e4], by rw [f4, e5 102 (by omega) (by omega) (by omega) (by omega) (by omega)]⟩
    · rw [if_neg g, if_neg g]
      exact ⟨M1, rfl, e3, e4, e5 102 (by omega) (by omega) (by omega) (by omega) (by omega)⟩
theorem z_mMo (hl : len ≤ 24) (h1 : 1 ≤ len) (hm : m ≤ 24) (hB : ∀ i, i < m → s (16 + 4 * i) ≤ 7) (hln : ∀ b, b < m → ln b < len) {n : Nat} (hn : n ≤ 60) (hw : w ≤ 1) : ∀ r y fu (M : Mem) (F : Nat → Int32), y + r = n + 1 → r < fu → z_MY len m ln lg s F M → ∃ M', f_X10_most_L45 (nI n) (nI w) fu (nI y) M = some (z_moS lg (fun p => z_lb s p m) ln len w r y F, M') ∧ z_Mf M M' ∧ M' 93 = M 93 ∧ M' 102 = M 102 := by
  intro r
  induction r with
  | zero =>
    intro y fu M F h2 h3 hy
    obtain ⟨fu, rfl⟩ : ∃ f, fu = f + 1 := ⟨fu - 1, by omega⟩
    refine ⟨M, ?_, z_Mf_r M, rfl, rfl⟩
    obtain ⟨t1, t2, t3⟩ := z_mTk hl h1 hy
    rw [f_X10_most_L45, if_pos (nI_lt (by omega) (by omega)), t1, Option.bind_some, Option.bind_some, z_ib (by omega) (by omega), if_pos rfl, nI_clamp (by omega), t3, z_moS]
    by_cases g : w = 0
    · rw [if_pos (show nI w = 0 from congrArg nI g), if_pos g]
    · rw [if_neg (show ¬ nI w = 0 from nI_ne0 (by omega) (by omega)), if_neg g]
  | succ r ih =>
    intro y fu M F h2 h3 hy
    obtain ⟨fu, rfl⟩ : ∃ f, fu = f + 1 := ⟨fu - 1, by omega⟩
    obtain ⟨M1, e1, e2, e3, e4, e5⟩ := z_mGrow (y := y) hl hm (by omega) hB hln hy
    rw [f_X10_most_L45, if_neg (nI_nlt (by omega) (by omega)), e1, Option.bind_some, nI_1, z_moS]
    obtain ⟨M', f1, f2, f3, f4⟩ := ih (y + 1) fu M1 _ (by omega) (by omega) e2
    exact ⟨M', f1, z_Mf_t e3 f2, by rw [f3, e4], by rw [f4, e5 102 (by omega) (by omega) (by omega) (by omega) (by omega)]⟩
end
/-- both sides begin the years of the stock as it is: nothing to do, or years to go through -/
theorem z_yB {n : Nat} {M : Mem} {s : Nat → Nat} {u : Nat → TU} (hn : n < 512) (hI : Inv n M) (hS : z_Stk M 25 94 s u) : (∃ Ml M1 x, f_X2_load M 25 = some Ml ∧ f_X2_settle Ml = some (x, M1) ∧ (x = 0 ∨ M1 1 14 = 0) ∧ z_Cf M M1 ∧ z_Lok M (M1 1 7) ∧ z_Lok M (M1 11 3) ∧ ∃ M2, f_X10_beginsYears M1 = some M2 ∧ (M2 93 16 < 0 ∨ M2 93 17 = 0) ∧ z_Mf M1 M2 ∧ z_Ask (n + 1) M2) ∨ (∃ Ml M1 len ln lg F Mb, f_X2_load M 25 = some Ml ∧ f_X2_settle Ml = some (1, M1) ∧ ¬ M1 1 14 = 0 ∧ f_X8_begin M1 25 = some Mb ∧ z_CY len ln (fun p => z_lb s p (s 4)) lg F Mb ∧ 1 ≤ len ∧ len ≤ 24 ∧ (∀ b, b < s 4 → ln b < len) ∧ z_Cf M Mb ∧ z_Lok M (Mb 1 7) ∧ z_Lok M (Mb 11 3) ∧ ∀ M3 : Mem, z_Cf M M3 → ∃ M2, f_X10_beginsYears M3 = some M2 ∧ ¬ M2 93 16 < 0 ∧ ¬ M2 93 17 = 0 ∧ z_MY len (s 4) ln lg s F M2 ∧ z_Mf M3 M2 ∧ z_Ask (n + 1) M2) := by
  have hL := z_32L hI
  have hW := hS.1
  have w1 : s 4 ≤ 24 := hW.1.1
  obtain ⟨T, hT⟩ : ∃ T, T = z_out (s 4) (s 1) (z_sH s) (z_sT s) (z_sD s) (z_sf (z_sA s) (s 7)) (z_P (z_lw 0 u (s 6)) (s 2)) (s 4) := ⟨_, rfl⟩
  obtain ⟨Sl, hSl⟩ : ∃ Sl, Sl = z_st T.2 (s 4) (s 4 + 1) 0 := ⟨_, rfl⟩
  obtain ⟨hq, ⟨Ml, M1, e1, e2, e3, e4, e5, e6, e7, e8⟩, hm⟩ := z_both hn hI hS hT hSl
  have l11 : z_Lok M (M1 11 3) := by rw [e8 11 (by omega) (by omega)]; exact hL.2.2.2
  have zero : ∀ M2 : Mem, M2 93 17 = 0 → f_X10_beginsYears_L6 bw_fu 0 M2 = some M2 := by
    intro M2 h
    rw [show bw_fu = 1999 + 1 from rfl, f_X10_beginsYears_L6, h, if_pos (by decide)]
  by_cases nn : T.1 0 = none
  · left
    obtain ⟨q0, M2, f0, f1, f2, f3, f4, f5, f6⟩ := hm M1 e4
    refine ⟨Ml, M1, _, e1, e2, Or.inl (by rw [if_pos nn]), e4, z_PlLok e3 e4, l11, M2, ?_, Or.inl (by rw [f4, nn]; decide), f3, z_AskMp f0 f2⟩
    unfold f_X10_beginsYears
    rw [f1, Option.bind_some, zero M2 (f6 nn)]
  · obtain ⟨hl, -⟩ := z_LnI hT hSl nn
    obtain ⟨e6a, e6b⟩ := e6 nn
    by_cases g0 : Sl.length = 0
    · left
      obtain ⟨q0, M2, f0, f1, f2, f3, f4, f5, f6⟩ := hm M1 e4
      have h17 : M2 93 17 = 0 := by rw [(f5 nn).1, g0]; rfl
      refine ⟨Ml, M1, _, e1, e2, Or.inr (by rw [e6a, g0]; rfl), e4, z_PlLok e3 e4, l11, M2, ?_, Or.inr h17, f3, z_AskMp f0 f2⟩
      unfold f_X10_beginsYears
      rw [f1, Option.bind_some, zero M2 h17]
    · right
      have sl := hl.1
      obtain ⟨ln, hln⟩ := z_lnX hl
      have st1 : z_Stk M1 25 94 s u := z_Stk_fr (e4.1 94 (by omega)) (fun k g1 g2 => e4.1 k (by omega)) e4.2 hS
      have lws1 : z_Lws n M1 := by
        refine ⟨?_, ?_, ?_, ?_⟩
        · obtain ⟨c, h1, h2, h3⟩ := hL.1
          exact ⟨c, h1, h2, by rw [e4.1 0 (by omega)]; exact h3⟩
        · intro i hi
          unfold z_Lok
          rw [e4.1 0 (by omega), e4.1 32 (by omega), e4.1 52 (by omega)]
          exact hL.2.1 i hi
        · have := z_PlLok e3 e4
          unfold z_Lok at this ⊢
          rw [e4.1 0 (by omega)]; exact this
        · unfold z_Lok at l11 ⊢
          rw [e4.1 0 (by omega)]; exact l11
      obtain ⟨Mb, b1, b2, b3, b4, b5, b6⟩ := z_cBg (n := n) st1 (by omega) (by omega) lws1 (fun t ht => (lws1.2.1 t ht).1) e3 hl e6a e6b hln
      refine ⟨Ml, M1, Sl.length, ln, _, _, Mb, e1, ?_, ?_, b1, b2, by omega, by omega, fun b hb => (hln b hb).1, z_Cf_t e4 b3, ?_, ?_, ?_⟩
      · rw [if_neg nn] at e2; exact e2
      · rw [e6a]; exact nI_ne0 (by omega) (by omega)
      · rw [b5 1 (by omega) (by omega) (by omega) (by omega) (by omega)]; exact z_PlLok e3 e4
      · unfold z_Lok at b4 ⊢
        rw [e4.1 0 (by omega)] at b4; exact b4
      · intro M3 hc3
        obtain ⟨q0, M2, f0, f1, f2, f3, f4, f5, f6⟩ := hm M3 hc3
        obtain ⟨f5a, f5b, f5c⟩ := f5 nn
        have st3 : z_Stk M3 25 94 s u := z_Stk_fr (hc3.1 94 (by omega)) (fun k g1 g2 => hc3.1 k (by omega)) hc3.2 hS
        have st2 : z_Stk M2 25 94 s u := z_Stk_fr (f3.1 94 (by omega)) (fun k g1 g2 => f3.1 k (by omega)) (fun c => ⟨f3.1 _ (by omega), f3.1 _ (by omega), by rw [f3.1 _ (by omega)]⟩) st3
        obtain ⟨M4, j1, j2, j3⟩ := z_mBg (S := 25) hW st2.2.1 st2.2.2.2.2.2.2.2 b6 f2 hl f5a f5b f5c hln
        refine ⟨M4, ?_, ?_, ?_, j2, z_Mf_t f3 (z_Mf_b (fun b hb => j3 b (by omega))), z_Ask_fr (by rw [j3 93 (by omega)]) (j3 102 (by omega)) (z_AskMp f0 f2)⟩
        · unfold f_X10_beginsYears
          rw [f1, Option.bind_some, j1]
        · rw [j3 93 (by omega), f4]
          cases hq0 : T.1 0 with
          | none => exact absurd hq0 nn
          | some q => have := hq q hq0; exact nI_pos (by omega)
        · rw [j3 93 (by omega), f5a]; exact nI_ne0 (by omega) (by omega)
theorem op_fullBy : Op_fullBy Inv := by
  intro n M hn hI
  have hI' := hI
  obtain ⟨⟨s, u, hS⟩, -⟩ := hI'
  have hS' := hS
  obtain ⟨hW, hM, hz, c1, c2, c3, c4, hT⟩ := hS
  obtain ⟨w1, w2, w3, w4, w5, w6, w7, w8, w9⟩ := hW.1
  obtain ⟨d1, d2, d3, d4, d5, d6, d7⟩ := c1
  have m4 : M 94 4 = nI (s 4) := hM 4 (by omega) (by omega)
  have m5 : M 94 5 = nI (s 5) := hM 5 (by omega) (by omega)
  have m6 : M 94 6 = nI (s 6) := hM 6 (by omega) (by omega)
  have m7 : M 94 7 = nI (s 7) := hM 7 (by omega) (by omega)
  have hfu : 100 < bw_fu := by decide
  rcases z_yB hn hI hS' with ⟨Ml, M1, x, e1, e2, e3, e4, e5, e6, M2, f1, f2, f3, f4⟩ | ⟨Ml, M1, len, ln, lg, F, Mb, e1, e2, e3, e4, e5, e6, e7, e8, e9, e10, e11, hm⟩
  · refine ⟨-1000000005, M1, M2, ?_, ?_, z_fin hI e4 e5 e6 f3 f4⟩
    · unfold f_X9_fullBy
      rw [e1, Option.bind_some, e2, Option.bind_some]
      rcases e3 with e3 | e3
      · rw [if_pos (show (x, M1).1 = 0 from e3)]
      · split
        · rfl
        · first | rfl | rw [if_pos (show (x, M1).2 1 14 = 0 from e3)]
    · unfold f_X10_fullBy
      rw [f1, Option.bind_some]
      rcases f2 with f2 | f2
      · rw [if_pos f2]
      · split
        · rfl
        · first | rfl | rw [if_pos f2]
  · obtain ⟨M3, g1, g2, g3⟩ := z_cFb (W := s 1) e7 e6 (fun p b hb => e8 b (z_lb_lt _ _ hb)) 60 1 bw_fu Mb F (by omega) (by omega) e5 (by rw [e9.1 25 (by omega)]; exact d2)
    obtain ⟨M2, f1, f2, f3, f4, f5, f6⟩ := hm M3 (z_Cf_t e9 g2)
    obtain ⟨M4, j1, j2, j3, j4⟩ := z_mFb (W := s 1) (m := s 4) e7 e6 w1 (fun i hi => (hW.2.1 i hi).2.2.2.2.1) e8 rfl 60 1 bw_fu M2 F (by omega) (by omega) f4
    rw [← l_1] at g1 j1
    refine ⟨z_fbS lg (fun p => z_lb s p (s 4)) ln len (s 1) 60 1 F, M3, M4, ?_, ?_, z_fin hI (z_Cf_t e9 g2) ?_ ?_ (z_Mf_t f5 j2) (z_Ask_fr (by rw [j3]) j4 f6)⟩
    · unfold f_X9_fullBy
      rw [e1, Option.bind_some, e2, Option.bind_some, if_neg (show ¬ ((1 : Int32), M1).1 = 0 from (by decide : ¬ (1 : Int32) = 0)), if_neg (show ¬ ((1 : Int32), M1).2 1 14 = 0 from e3), e4, Option.bind_some, g1]
    · unfold f_X10_fullBy
      rw [f1, Option.bind_some, if_neg f2, if_neg f3, j1]
    · rw [g3 1 (by omega) (by omega) (by omega)]; exact e10
    · rw [g3 11 (by omega) (by omega) (by omega)]; exact e11
theorem op_most : Op_most Inv := by
  intro n M a b hn hI
  have hI' := hI
  obtain ⟨⟨s, u, hS⟩, -⟩ := hI'
  have hS' := hS
  obtain ⟨hW, hM, hz, c1, c2, c3, c4, hT⟩ := hS
  obtain ⟨w1, w2, w3, w4, w5, w6, w7, w8, w9⟩ := hW.1
  obtain ⟨d1, d2, d3, d4, d5, d6, d7⟩ := c1
  have m4 : M 94 4 = nI (s 4) := hM 4 (by omega) (by omega)
  have m5 : M 94 5 = nI (s 5) := hM 5 (by omega) (by omega)
  have m6 : M 94 6 = nI (s 6) := hM 6 (by omega) (by omega)
  have m7 : M 94 7 = nI (s 7) := hM 7 (by omega) (by omega)
  have hfu : 100 < bw_fu := by decide
  have bad : ∀ r, f_X9_most M a b = some (r, M) → f_X10_most M a b = some (r, M) → ∃ (r : Int32) (M1 M2 : Mem), (f_X9_most M a b = some (r, M1)) ∧ (f_X10_most M1 a b = some (r, M2)) ∧ Inv (n + 1) M2 :=
    fun r h1 h2 => ⟨r, M, M, h1, h2, z_nochange hI⟩
  rcases z_wi a 0 60 (by omega) (by omega) with o | ⟨o, k, -, hk, rfl⟩
  · rw [← l_0, ← l_60] at o
    exact bad (-1000000001) (by unfold f_X9_most; rw [if_pos o]) (by unfold f_X10_most; rw [z_in, if_pos o])
  · rw [← l_0, ← l_60] at o
    rcases z_wi b 0 1 (by omega) (by omega) with p | ⟨p, w, -, hw, rfl⟩
    · rw [← l_0, ← l_1] at p
      exact bad (-1000000001) (by unfold f_X9_most; rw [o, if_neg (by decide), if_pos p]) (by unfold f_X10_most; rw [z_in, z_in, o, if_neg (by decide), if_pos p])
    · rw [← l_0, ← l_1] at p
      rcases z_yB hn hI hS' with ⟨Ml, M1, x, e1, e2, e3, e4, e5, e6, M2, f1, f2, f3, f4⟩ | ⟨Ml, M1, len, ln, lg, F, Mb, e1, e2, e3, e4, e5, e6, e7, e8, e9, e10, e11, hm⟩
      · refine ⟨-1000000005, M1, M2, ?_, ?_, z_fin hI e4 e5 e6 f3 f4⟩
        · unfold f_X9_most
          rw [o, if_neg (by decide), p, if_neg (by decide), e1, Option.bind_some, e2, Option.bind_some]
          rcases e3 with e3 | e3
          · rw [if_pos (show (x, M1).1 = 0 from e3)]
          · split
            · rfl
            · first | rfl | rw [if_pos (show (x, M1).2 1 14 = 0 from e3)]
        · unfold f_X10_most
          rw [z_in, z_in, o, if_neg (by decide), p, if_neg (by decide), f1, Option.bind_some]
          rcases f2 with f2 | f2
          · rw [if_pos f2]
          · split
            · rfl
            · first | rfl | rw [if_pos f2]
      · obtain ⟨M3, g1, g2, g3⟩ := z_cMo (w := w) e7 e6 (fun p b hb => e8 b (z_lb_lt _ _ hb)) hk hw k 1 bw_fu Mb F (by omega) (by omega) e5
        obtain ⟨M2, f1, f2, f3, f4, f5, f6⟩ := hm M3 (z_Cf_t e9 g2)
        obtain ⟨M4, j1, j2, j3, j4⟩ := z_mMo (w := w) (m := s 4) e7 e6 w1 (fun i hi => (hW.2.1 i hi).2.2.2.2.1) e8 hk hw k 1 bw_fu M2 F (by omega) (by omega) f4
        rw [show nI 1 = 1 from rfl] at g1 j1
        refine ⟨z_moS lg (fun p => z_lb s p (s 4)) ln len w k 1 F, M3, M4, ?_, ?_, z_fin hI (z_Cf_t e9 g2) ?_ ?_ (z_Mf_t f5 j2) (z_Ask_fr (by rw [j3]) j4 f6)⟩
        · unfold f_X9_most
          rw [o, if_neg (by decide), p, if_neg (by decide), e1, Option.bind_some, e2, Option.bind_some, if_neg (show ¬ ((1 : Int32), M1).1 = 0 from (by decide : ¬ (1 : Int32) = 0)), if_neg (show ¬ ((1 : Int32), M1).2 1 14 = 0 from e3), e4, Option.bind_some, g1]
        · unfold f_X10_most
          rw [z_in, z_in, o, if_neg (by decide), p, if_neg (by decide), f1, Option.bind_some, if_neg f2, if_neg f3, j1]
        · rw [g3 1 (by omega) (by omega) (by omega)]; exact e10
        · rw [g3 11 (by omega) (by omega) (by omega)]; exact e11
