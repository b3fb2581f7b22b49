/-! level 2: setting, bookTold, line -/
theorem z_PlLok {m W pl c : Nat} {h t d A : Nat → Nat} {lw : Option TU} {M M' : Mem} (hp : z_Pl m W pl c h t d A lw M') (hc : z_Cf M M') : z_Lok M (M' 1 7) := by
  have p7 := hp.2.2.2.2.2.2.1
  cases lw with
  | none => exact ⟨0, by omega, p7⟩
  | some u =>
    obtain ⟨e, hu⟩ := p7
    have l := hu.2.2
    unfold bw_lok at l
    rw [hc.1 0 (by omega)] at l
    have u5 := hu.2.1.2.1
    rw [nI_clamp (by omega)] at l
    simp only [Bool.and_eq_true, decide_eq_true_eq] at l
    exact ⟨u.1, l.2, e⟩
/-- what is known of the lines -/
def z_Ln (m : Nat) (T : (Nat → Option Nat) × (Nat → Nat)) (S : List Nat) : Prop := S.length ≤ m ∧ S.getD 0 m = 0 ∧ ∀ k, k < S.length → (∃ q, T.1 (S.getD k m) = some q) ∧ S.getD k m < S.getD (k + 1) m ∧ S.getD (k + 1) m ≤ m ∧ S.getD k m < m
section
variable {m W pl c : Nat} {h t d A : Nat → Nat} {lw : Option TU} {q0 : Nat}
theorem z_LnI {T : (Nat → Option Nat) × (Nat → Nat)} {sf : Nat → Nat} {P : Nat → Nat → Nat} (hT : T = z_out m W h t d sf P m) {S : List Nat} (hS : S = z_st T.2 m (m + 1) 0) (h0 : T.1 0 ≠ none) : z_Ln m T S ∧ ∀ k, k < S.length → 0 < sf (z_tl h (S.getD k m) (S.getD (k + 1) m - S.getD k m)) := by
  have hN : ∀ j q, j < m → T.1 j = some q → j < T.2 j ∧ T.2 j ≤ m ∧ ∃ q', T.1 (T.2 j) = some q' := by
    rw [hT]; exact z_outS m W h t d sf P m (by omega)
  have hq : ∃ q, T.1 0 = some q := by
    cases e : T.1 0 with
    | none => exact absurd e h0
    | some q => exact ⟨q, rfl⟩
  obtain ⟨a1, a2, a3⟩ := z_st_f hN (m + 1) 0 (by omega) (by omega) hq
  rw [← hS] at a1 a2 a3
  refine ⟨⟨by omega, a2, ?_⟩, ?_⟩
  · intro k hk
    obtain ⟨⟨q, b1⟩, b2, b3⟩ := a3 k hk
    obtain ⟨n1, n2, -⟩ := hN _ q b2 b1
    rw [← b3] at n1 n2
    exact ⟨⟨q, b1⟩, n1, n2, b2⟩
  · intro k hk
    obtain ⟨⟨q, b1⟩, b2, b3⟩ := a3 k hk
    rw [b3, hT]
    rw [hT] at b1
    have := z_outT m W h t d sf P m (by omega) _ q b2 b1
    rw [← hT] at this ⊢
    exact this
theorem z_LnM {T : (Nat → Option Nat) × (Nat → Nat)} {S : List Nat} (hl : z_Ln m T S) : ∀ k j, j ≤ k → k ≤ S.length → S.getD j m ≤ S.getD k m := by
  intro k
  induction k with
  | zero => intro j h1 h2; rw [show j = 0 by omega]; omega
  | succ k ih =>
    intro j h1 h2
    by_cases g : j = k + 1
    · rw [g]; omega
    · have := ih j (by omega) (by omega)
      have := (hl.2.2 k (by omega)).2.1
      omega
theorem z_LnE {T : (Nat → Option Nat) × (Nat → Nat)} {S : List Nat} (hl : z_Ln m T S) {b : Nat} (hb : b < m) : ∃ k, k < S.length ∧ S.getD k m ≤ b ∧ b < S.getD (k + 1) m := by
  have : ∀ r i, i + r = S.length → S.getD i m ≤ b → ∃ k, k < S.length ∧ S.getD k m ≤ b ∧ b < S.getD (k + 1) m := by
    intro r
    induction r with
    | zero =>
      intro i h1 h2
      rw [show i = S.length by omega] at h2
      have : S.getD S.length m = m := by simp
      omega
    | succ r ih =>
      intro i h1 h2
      by_cases g : b < S.getD (i + 1) m
      · exact ⟨i, by omega, h2, g⟩
      · exact ih (i + 1) (by omega) (by omega)
  exact this S.length 0 (by omega) (by rw [hl.2.1]; omega)
theorem z_cLo {M : Mem} {T : (Nat → Option Nat) × (Nat → Nat)} {S : List Nat} (hm : m ≤ 24) (hl : z_Ln m T S) (h14 : M 1 14 = nI S.length) (h9 : ∀ k, k ≤ S.length → M 9 k = nI (S.getD k m)) {b k : Nat} (hk : k < S.length) (hb1 : S.getD k m ≤ b) (hb2 : b < S.getD (k + 1) m) : ∀ r i fu, i + r = k → r < fu → f_X2_lineOf_L2 M (nI b) fu (nI i) = some (nI k) := by
  have s1 := hl.1
  have kk := hl.2.2 k hk
  intro r
  induction r with
  | zero =>
    intro i fu h1 h2
    obtain ⟨fu, rfl⟩ : ∃ f, fu = f + 1 := ⟨fu - 1, by omega⟩
    have : i = k := by omega
    subst this
    rw [f_X2_lineOf_L2, h14, if_neg (nI_ge (by omega) (by omega)), nI_1, z_ib (by omega) (by omega), if_pos rfl, nI_clamp (by omega), h9 _ (by omega), if_neg (nI_ge (by omega) (by omega))]
  | succ r ih =>
    intro i fu h1 h2
    obtain ⟨fu, rfl⟩ : ∃ f, fu = f + 1 := ⟨fu - 1, by omega⟩
    have := z_LnM hl k (i + 1) (by omega) (by omega)
    rw [f_X2_lineOf_L2, h14, if_neg (nI_ge (by omega) (by omega)), nI_1, z_ib (by omega) (by omega), if_pos rfl, nI_clamp (by omega), h9 _ (by omega), if_pos (nI_le (by omega) (by omega)), ih (i + 1) fu (by omega) (by omega)]
theorem z_cBo {M : Mem} {T : (Nat → Option Nat) × (Nat → Nat)} {S : List Nat} (hm : m ≤ 24) (hl : z_Ln m T S) (h14 : M 1 14 = nI S.length) (h9 : ∀ k, k ≤ S.length → M 9 k = nI (S.getD k m)) {k : Nat} (hk : k < S.length) : f_X2_booksOf M (nI k) = some (nI (S.getD (k + 1) m - S.getD k m)) := by
  have s1 := hl.1
  have kk := hl.2.2 k hk
  unfold f_X2_booksOf
  rw [h14, z_wiM (by omega) (by omega), if_pos hk, if_neg (by decide), nI_1, z_ib (by omega) (by omega), if_pos rfl, z_ib (by omega) (by omega), if_pos rfl, nI_clamp (by omega), nI_clamp (by omega), h9 _ (by omega), h9 _ (by omega), pk_sub (by omega)]
theorem z_cTh {M : Mem} {n f : Nat} {v : Int32} (hf : f + n ≤ 24) (hB : f_X2_booksOf M v = some (nI n)) (h3 : ∀ j, j < f + n → M 3 j = nI (t j)) : ∀ r i fu, i + r = n → r < fu → f_X2_thicknessOf_L33 M v (nI f) fu (nI (z_ts t f i)) (nI i) = some (nI (z_ts t f n)) := by
  intro r
  induction r with
  | zero =>
    intro i fu h1 h2
    obtain ⟨fu, rfl⟩ : ∃ f, fu = f + 1 := ⟨fu - 1, by omega⟩
    rw [f_X2_thicknessOf_L33, hB, Option.bind_some, if_pos (nI_le (by omega) (by omega)), show i = n by omega]
  | succ r ih =>
    intro i fu h1 h2
    obtain ⟨fu, rfl⟩ : ∃ f, fu = f + 1 := ⟨fu - 1, by omega⟩
    rw [f_X2_thicknessOf_L33, hB, Option.bind_some, if_neg (nI_ge (by omega) (by omega)), nI_add, z_ib (by omega) (by omega), if_pos rfl, nI_clamp (by omega), h3 _ (by omega), nI_add, z_ml, nI_1]
    exact ih (i + 1) fu (by omega) (by omega)
theorem z_cTa {M : Mem} {n f : Nat} {v : Int32} (hf : f + n ≤ 24) (hB : f_X2_booksOf M v = some (nI n)) (h3 : ∀ j, j < f + n → M 2 j = nI (h j)) (hh : ∀ j, j < f + n → h j ≤ 99) : ∀ r i fu, i + r = n → r < fu → f_X2_tallOf_L33 M v (nI f) fu (nI (z_tl h f i)) (nI i) = some (nI (z_tl h f n)) := by
  intro r
  induction r with
  | zero =>
    intro i fu h1 h2
    obtain ⟨fu, rfl⟩ : ∃ f, fu = f + 1 := ⟨fu - 1, by omega⟩
    rw [f_X2_tallOf_L33, hB, Option.bind_some, if_pos (nI_le (by omega) (by omega)), show i = n by omega]
  | succ r ih =>
    intro i fu h1 h2
    obtain ⟨fu, rfl⟩ : ∃ f, fu = f + 1 := ⟨fu - 1, by omega⟩
    have a1 := z_tl_le (i := f) hh i (by omega)
    have a2 := hh (f + i) (by omega)
    rw [f_X2_tallOf_L33, hB, Option.bind_some, if_neg (nI_ge (by omega) (by omega)), nI_add, z_ib (by omega) (by omega), if_pos rfl, nI_clamp (by omega), h3 _ (by omega), z_maxN (by omega) (by omega), z_ml, nI_1]
    exact ih (i + 1) fu (by omega) (by omega)
theorem z_mTh {M : Mem} {n f k : Nat} (hf : f + n ≤ 24) (hk : k < 24) (hB : M 105 (k + 1) = nI (f + n)) (h3 : ∀ j, j < f + n → M 98 j = nI (t j)) : ∀ r i fu, i + r = n → r < fu → f_X10_thickOf_L9 M (nI k) fu (nI (z_ts t f i)) (nI (f + i)) = some (nI (z_ts t f n)) := by
  intro r
  induction r with
  | zero =>
    intro i fu h1 h2
    obtain ⟨fu, rfl⟩ : ∃ f, fu = f + 1 := ⟨fu - 1, by omega⟩
    rw [f_X10_thickOf_L9, nI_1, z_ib (by omega) (by omega), if_pos rfl, nI_clamp (by omega), hB, if_pos (nI_le (by omega) (by omega)), show i = n by omega]
  | succ r ih =>
    intro i fu h1 h2
    obtain ⟨fu, rfl⟩ : ∃ f, fu = f + 1 := ⟨fu - 1, by omega⟩
    rw [f_X10_thickOf_L9, nI_1, z_ib (by omega) (by omega), if_pos rfl, nI_clamp (by omega), hB, if_neg (nI_ge (by omega) (by omega)), z_ib (by omega) (by omega), if_pos rfl, nI_clamp (by omega), h3 _ (by omega), nI_add, nI_1]
    exact ih (i + 1) fu (by omega) (by omega)
theorem z_mTa {M : Mem} {n f k : Nat} (hf : f + n ≤ 24) (hk : k < 24) (hB : M 105 (k + 1) = nI (f + n)) (h3 : ∀ j, j < f + n → M 97 j = nI (h j)) (hh : ∀ j, j < f + n → h j ≤ 99) : ∀ r i fu, i + r = n → r < fu → f_X10_tallOf_L9 M (nI k) fu (nI (z_tl h f i)) (nI (f + i)) = some (nI (z_tl h f n)) := by
  intro r
  induction r with
  | zero =>
    intro i fu h1 h2
    obtain ⟨fu, rfl⟩ : ∃ f, fu = f + 1 := ⟨fu - 1, by omega⟩
    rw [f_X10_tallOf_L9, nI_1, z_ib (by omega) (by omega), if_pos rfl, nI_clamp (by omega), hB, if_pos (nI_le (by omega) (by omega)), show i = n by omega]
  | succ r ih =>
    intro i fu h1 h2
    obtain ⟨fu, rfl⟩ : ∃ f, fu = f + 1 := ⟨fu - 1, by omega⟩
    have a1 := z_tl_le (i := f) hh i (by omega)
    have a2 := hh (f + i) (by omega)
    have e : (if nI (h (f + i)) ≤ nI (z_tl h f i) then nI (z_tl h f i) else nI (h (f + i))) = nI (z_tl h f (i + 1)) := by
      rw [z_tl]; unfold z_mx
      by_cases g : z_tl h f i < h (f + i)
      · rw [if_pos g, if_neg (nI_ge g (by omega))]
      · rw [if_neg g, if_pos (nI_le (by omega) (by omega))]
    rw [f_X10_tallOf_L9, nI_1, z_ib (by omega) (by omega), if_pos rfl, nI_clamp (by omega), hB, if_neg (nI_ge (by omega) (by omega)), z_ib (by omega) (by omega), if_pos rfl, nI_clamp (by omega), h3 _ (by omega), e, z_ml, nI_1]
    exact ih (i + 1) fu (by omega) (by omega)
end
/-- the two sides' settings of the stock as it is -/
theorem z_both {n : Nat} {M : Mem} {s : Nat → Nat} {u : Nat → TU} (hn : n < 512) (hI : Inv n M) (hS : z_Stk M 25 94 s u) {T : (Nat → Option Nat) × (Nat → Nat)} (hT : T = z_out (s 4) (s 1) (z_sH s) (z_sT s) (z_sD s) (z_sf (z_sA s) (s 7)) (z_P (z_lw 0 u (s 6)) (s 2)) (s 4)) {Sl : List Nat} (hSl : Sl = z_st T.2 (s 4) (s 4 + 1) 0) : (∀ q, T.1 0 = some q → q ≤ 9999 * 24) ∧ (∃ Ml M1, f_X2_load M 25 = some Ml ∧ f_X2_settle Ml = some ((if T.1 0 = none then 0 else 1), M1) ∧ z_Pl (s 4) (s 1) (s 2) (s 7) (z_sH s) (z_sT s) (z_sD s) (z_sA s) (z_lw 0 u (s 6)) M1 ∧ z_Cf M M1 ∧ M1 7 0 = z_oI (T.1 0) ∧ (T.1 0 ≠ none → M1 1 14 = nI Sl.length ∧ ∀ k, k ≤ Sl.length → M1 9 k = nI (Sl.getD k (s 4))) ∧ (T.1 0 = none → M1 1 14 = 0) ∧ ∀ k, 10 ≤ k → k ≤ 24 → M1 k = M k) ∧ ∀ M1 : Mem, z_Cf M M1 → ∃ q0 M2, q0 ≤ n + 1 ∧ f_X10_settles M1 = some M2 ∧ z_Mp (s 4) (s 1) (s 2) (s 7) (z_sH s) (z_sT s) (z_sD s) (z_sA s) (z_lw 0 u (s 6)) q0 M2 ∧ z_Mf M1 M2 ∧ M2 93 16 = z_oI (T.1 0) ∧ (T.1 0 ≠ none → M2 93 17 = nI Sl.length ∧ (∀ k, k ≤ Sl.length → M2 105 k = nI (Sl.getD k (s 4))) ∧ ∀ k, k < Sl.length → ∀ b, Sl.getD k (s 4) ≤ b → b < Sl.getD (k + 1) (s 4) → M2 106 b = nI k) ∧ (T.1 0 = none → M2 93 17 = 0) := by
  have hL := z_32L hI
  have hA := hI.2.2.2.2.2.2.2.1
  have hW := hS.1
  have hbd := z_BdS hW
  have hbd' := hbd
  obtain ⟨b1, b2, b3, b4, b5, b6⟩ := hbd
  refine ⟨?_, ?_, ?_⟩
  · intro q hq
    have := z_outB (s 4) (s 1) (z_sH s) (z_sT s) (z_sD s) (z_sf (z_sA s) (s 7)) (z_P (z_lw 0 u (s 6)) (s 2)) (fun a b ha => z_P_le b3 ha) (fun a ha => z_sf_le (fun k hk => (b6 k hk).2) ha) (fun j hj => (b5 j hj).2.1) (s 4) (by omega) 0 q (by rw [← hT]; exact hq)
    omega
  · obtain ⟨Ml, e1, e2, e3, e4, e5, e6⟩ := z_load (n := n) hS (by omega) (by omega) hL (fun t ht => (hL.2.1 t ht).1)
    obtain ⟨M1, f1, f2, f3, f4, f5, f6, f7⟩ := z_cSe hbd' e2 hT hSl
    exact ⟨Ml, M1, e1, f1, f2, z_Cf_t e3 f3, f4, f5, f6, fun k g1 g2 => by rw [f7 k (by omega) (by omega) (by omega) (by omega) (by omega) (by omega) (by omega), e6 k (by omega) (by omega)]⟩
  · intro M1 hc
    have st : z_Stk M1 25 94 s u := z_Stk_fr (hc.1 94 (by omega)) (fun k g1 g2 => hc.1 k (by omega)) hc.2 hS
    obtain ⟨q, Ma, Mb, a1, a2, a3, a4, a5, a6, a7, -⟩ := z_mBeg (n := n) hn hW st.2.1 st.2.2.2.2.2.2.2 (z_Ask_fr (by rw [hc.1 93 (by omega)]) (hc.1 102 (by omega)) hA)
    obtain ⟨Mc, M2, g1, g2, g3, g4, g5, g6, g7, g8, g9⟩ := z_mSe hbd' a4 hT hSl
    refine ⟨q + 1, M2, by omega, ?_, g3, z_Mf_t a5 g4, g5, g6, g7⟩
    unfold f_X10_settles
    rw [a2, Option.bind_some, a3, Option.bind_some, g1, Option.bind_some, z_ml, g2, Option.bind_some]
theorem op_setting : Op_setting Inv := by
  intro n M a hn hI
  have hI' := hI
  obtain ⟨⟨s, u, hS⟩, -⟩ := hI'
  have hS' := hS
  obtain ⟨hW, hM, hz, c1, c2, c3, c4, hT⟩ := hS
  obtain ⟨w1, w2, w3, w4, w5, w6, w7, w8, w9⟩ := hW.1
  obtain ⟨d1, d2, d3, d4, d5, d6, d7⟩ := c1
  have m4 : M 94 4 = nI (s 4) := hM 4 (by omega) (by omega)
  have m5 : M 94 5 = nI (s 5) := hM 5 (by omega) (by omega)
  have m6 : M 94 6 = nI (s 6) := hM 6 (by omega) (by omega)
  have m7 : M 94 7 = nI (s 7) := hM 7 (by omega) (by omega)
  have h3 := (z_32L hI).2.2.2
  by_cases ga : -2 ≤ a
  · obtain ⟨T, hT⟩ : ∃ T, T = z_out (s 4) (s 1) (z_sH s) (z_sT s) (z_sD s) (z_sf (z_sA s) (s 7)) (z_P (z_lw 0 u (s 6)) (s 2)) (s 4) := ⟨_, rfl⟩
    obtain ⟨Sl, hSl⟩ : ∃ Sl, Sl = z_st T.2 (s 4) (s 4 + 1) 0 := ⟨_, rfl⟩
    obtain ⟨hq, ⟨Ml, M1, e1, e2, e3, e4, e5, e6, e7, e8⟩, hm⟩ := z_both hn hI hS' hT hSl
    obtain ⟨q0, M2, f0, f1, f2, f3, f4, f5, f6⟩ := hm M1 e4
    have fi : Inv (n + 1) M2 := z_fin hI e4 (z_PlLok e3 e4) (by rw [e8 11 (by omega) (by omega)]; exact h3) f3 (z_AskMp f0 f2)
    have C : f_X9_setting M a = if T.1 0 = none then some (-1000000005, M1) else if a = -2 then some (M1 7 0, M1) else if a = -1 then some (M1 1 14, M1) else if M1 1 14 ≤ a then some (-1000000005, M1) else if bw_ib a 25 = true then some (M1 9 a.toNatClampNeg, M1) else none := by
      unfold f_X9_setting
      rw [if_pos ga, e1, Option.bind_some, e2, Option.bind_some]
      by_cases g : T.1 0 = none
      · simp only [g, if_true]
      · simp only [g, if_false]
        rw [if_neg (by decide)]
        rfl
    have D : f_X10_setting M1 a = if 0 ≤ M2 93 16 then (if 0 ≤ a then (if M2 93 17 ≤ a then some (-1000000005, M2) else if bw_ib a 26 = true then some (M2 105 a.toNatClampNeg, M2) else none) else some ((if a = -2 then M2 93 16 else M2 93 17), M2)) else some (-1000000005, M2) := by
      unfold f_X10_setting
      rw [if_pos ga, f1, Option.bind_some]
    cases hq0 : T.1 0 with
    | none =>
      rw [if_pos hq0] at C
      rw [f4, hq0, if_neg (by decide)] at D
      exact ⟨_, M1, M2, C, D, fi⟩
    | some q =>
      have nn : ¬ T.1 0 = none := by rw [hq0]; simp
      have qb := hq q hq0
      obtain ⟨hl, -⟩ := z_LnI hT hSl nn
      obtain ⟨e6a, e6b⟩ := e6 nn
      obtain ⟨f5a, f5b, f5c⟩ := f5 nn
      have sl := hl.1
      rw [if_neg nn, e5, hq0, e6a] at C
      rw [f4, hq0, if_pos (show 0 ≤ z_oI (some q) from nI_pos' (by omega)), f5a] at D
      by_cases g2 : a = -2
      · rw [if_pos g2] at C
        rw [if_neg (by rw [g2]; decide), if_pos g2] at D
        exact ⟨_, M1, M2, C, D, fi⟩
      · by_cases g1 : a = -1
        · rw [if_neg g2, if_pos g1] at C
          rw [if_neg (by rw [g1]; decide), if_neg g2] at D
          exact ⟨_, M1, M2, C, D, fi⟩
        · have a0 : 0 ≤ a := by
            rw [Int32.le_iff_toInt_le] at ga ⊢
            have x2 : (-2 : Int32).toInt = -2 := by decide
            have x0 : (0 : Int32).toInt = 0 := by decide
            have y2 : a.toInt ≠ -2 := fun h => g2 (Int32.toInt_inj.mp (h.trans x2.symm))
            have y1 : a.toInt ≠ -1 := fun h => g1 (Int32.toInt_inj.mp (h.trans (show (-1 : Int32).toInt = -1 by decide).symm))
            omega
          obtain ⟨k, hk, rfl⟩ := nI_of (Int32.not_lt.mpr a0)
          rw [if_neg g2, if_neg g1] at C
          rw [if_pos a0] at D
          by_cases gk : Sl.length ≤ k
          · rw [if_pos (nI_le gk (by omega))] at C D
            exact ⟨_, M1, M2, C, D, fi⟩
          · rw [if_neg (nI_ge (by omega) (by omega)), z_ib (by omega) (by omega), if_pos rfl, nI_clamp (by omega), e6b k (by omega)] at C
            rw [if_neg (nI_ge (by omega) (by omega)), z_ib (by omega) (by omega), if_pos rfl, nI_clamp (by omega), f5b k (by omega)] at D
            exact ⟨_, M1, M2, C, D, fi⟩
  · refine ⟨-1000000001, M, M, ?_, ?_, z_nochange hI⟩
    · unfold f_X9_setting; rw [if_neg ga]
    · unfold f_X10_setting; rw [if_neg ga]
