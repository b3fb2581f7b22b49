/-! level 2: years begin; fullBy, most -/
theorem z_bgA {S len : Nat} {F : Nat → Int32} {M0 : Mem} (hl : len ≤ 24) (hth : ∀ M' : Mem, M' 1 = M0 1 → M' 3 = M0 3 → M' 9 = M0 9 → ∀ k, k < len → f_X2_thicknessOf M' (nI k) = some (F k)) : ∀ r i fu (M : Mem), i + r = len → r < fu → M 11 0 = nI len → M 1 = M0 1 → M 3 = M0 3 → M 9 = M0 9 → (∀ k, k < i → M 12 k = F k) → ∃ M', f_X8_begin_L15 S fu (nI i) M = f_X8_begin_L50 S bw_fu 0 M' ∧ (∀ k, k < len → M' 12 k = F k) ∧ (∀ p, p < 8 → M' 13 p = -1) ∧ ∀ b, b ≠ 12 → b ≠ 13 → M' b = M b := by
  intro r
  induction r with
  | zero =>
    intro i fu M h1 h2 h3 h4 h5 h6 h7
    obtain ⟨fu, rfl⟩ : ∃ f, fu = f + 1 := ⟨fu - 1, by omega⟩
    refine ⟨bw_fill M 13 8 (-1), ?_, ?_, ?_, ?_⟩
    · rw [f_X8_begin_L15, h3, if_pos (nI_le (by omega) (by omega)), z_ml]
    · intro k hk; unfold bw_fill; rw [z_rowk _ _ _ (by omega)]; exact h7 k (by omega)
    · intro p hp; unfold bw_fill; rw [z_rows]; simp only [if_pos hp]
    · intro b _ g2; unfold bw_fill; rw [z_rowk _ _ _ g2]
  | succ r ih =>
    intro i fu M h1 h2 h3 h4 h5 h6 h7
    obtain ⟨fu, rfl⟩ : ∃ f, fu = f + 1 := ⟨fu - 1, by omega⟩
    have o : ∀ b, b ≠ 12 → bw_up M 12 i (F i) b = M b := fun b hb => z_up_k _ _ _ _ hb
    obtain ⟨M', e1, e2, e3, e4⟩ := ih (i + 1) fu (bw_up M 12 i (F i)) (by omega) (by omega) (by rw [o 11 (by omega)]; exact h3) (by rw [o 1 (by omega)]; exact h4) (by rw [o 3 (by omega)]; exact h5) (by rw [o 9 (by omega)]; exact h6) (by
      intro k hk
      by_cases g : k = i
      · subst g; rw [z_up_s]
      · rw [z_up_i _ _ _ _ g]; exact h7 k (by omega))
    refine ⟨M', ?_, e2, e3, fun b g1 g2 => by rw [e4 b g1 g2, o b g1]⟩
    rw [f_X8_begin_L15, h3, if_neg (nI_ge (by omega) (by omega)), hth M h4 h5 h6 i (by omega), Option.bind_some, z_ib (by omega) (by omega), if_pos rfl, nI_clamp (by omega), z_ml, nI_1]
    exact e1
theorem z_bgB {S m : Nat} {s ln : Nat → Nat} {M0 : Mem} (hS : 25 ≤ S) (hm : m ≤ 24) (h0 : M0 S 0 = nI m) (hp3 : ∀ i, i < m → M0 (S + 3) i = nI (s (16 + 4 * i)) ∧ s (16 + 4 * i) ≤ 7) (hlo : ∀ M' : Mem, M' 1 = M0 1 → M' 9 = M0 9 → ∀ b, b < m → f_X2_lineOf M' (nI b) = some (nI (ln b))) : ∀ r i fu (M : Mem), i + r = m → r < fu → (∀ b, b ≠ 11 → b ≠ 12 → b ≠ 13 → M b = M0 b) → (∀ p, p < 8 → M 13 p = z_ga ln (z_lb s p i)) → ∃ M', f_X8_begin_L50 S fu (nI i) M = ((f_X6_lawOf M' S (2 : Int32)).bind fun q5 => bw_ml (bw_up M' 11 3 q5) fun M6 => some M6) ∧ (∀ p, p < 8 → M' 13 p = z_ga ln (z_lb s p m)) ∧ ∀ b, b ≠ 13 → M' b = M b := by
  intro r
  induction r with
  | zero =>
    intro i fu M h1 h2 h3 h4
    obtain ⟨fu, rfl⟩ : ∃ f, fu = f + 1 := ⟨fu - 1, by omega⟩
    refine ⟨M, ?_, ?_, fun _ _ => rfl⟩
    · rw [f_X8_begin_L50, h3 S (by omega) (by omega) (by omega), h0, if_pos (nI_le (by omega) (by omega))]
    · intro p hp; rw [h4 p hp, show i = m by omega]
  | succ r ih =>
    intro i fu M h1 h2 h3 h4
    obtain ⟨fu, rfl⟩ : ∃ f, fu = f + 1 := ⟨fu - 1, by omega⟩
    obtain ⟨x1, x2⟩ := hp3 i (by omega)
    have o : ∀ b, b ≠ 13 → bw_up M 13 (s (16 + 4 * i)) (nI (ln i)) b = M b := fun b hb => z_up_k _ _ _ _ hb
    obtain ⟨M', e1, e2, e3⟩ := ih (i + 1) fu (bw_up M 13 (s (16 + 4 * i)) (nI (ln i))) (by omega) (by omega) (by intro b g1 g2 g3; rw [o b g3]; exact h3 b g1 g2 g3) (by
      intro p hp
      rw [z_lb]
      by_cases g : s (16 + 4 * i) = p
      · rw [if_pos g, g, z_up_s]; rfl
      · rw [if_neg g, z_up_i _ _ _ _ (fun h => g h.symm)]; exact h4 p hp)
    refine ⟨M', ?_, e2, fun b hb => by rw [e3 b hb, o b hb]⟩
    have wi : f_X9_isWithin (nI (s (16 + 4 * i))) 0 7 = 1 := by
      have := z_wiN (j := s (16 + 4 * i)) (a := 0) (b := 7) (by omega) (by omega) (by omega)
      rw [if_pos (by omega)] at this
      exact this
    rw [f_X8_begin_L50, h3 S (by omega) (by omega) (by omega), h0, if_neg (nI_ge (by omega) (by omega)), z_ib (by omega) (by omega), if_pos rfl, nI_clamp (by omega), h3 (S + 3) (by omega) (by omega) (by omega), x1, wi, if_neg (by decide), hlo M (h3 1 (by omega) (by omega) (by omega)) (h3 9 (by omega) (by omega) (by omega)) i (by omega), Option.bind_some, z_ib (by omega) (by omega), if_pos rfl, nI_clamp (by omega), z_ml, nI_1]
    exact e1
/-- the class's years begin -/
theorem z_cBg {S R n : Nat} {M : Mem} {s ln : Nat → Nat} {u : Nat → TU} {T : (Nat → Option Nat) × (Nat → Nat)} {Sl : List Nat} {W pl c : Nat} {d A : Nat → Nat} {lw : Option TU} (hS : z_Stk M S R s u) (hSl : 25 ≤ S ∧ S ≤ 100) (hR : 25 ≤ R) (hL : z_Lws n M) (hl7 : ∀ t, t < 14 → z_Lok M (M (S + 7) t)) (hp : z_Pl (s 4) W pl c (z_sH s) (z_sT s) d A lw M) (hl : z_Ln (s 4) T Sl) (h14 : M 1 14 = nI Sl.length) (h9 : ∀ k, k ≤ Sl.length → M 9 k = nI (Sl.getD k (s 4))) (hln : ∀ b, b < s 4 → ln b < Sl.length ∧ Sl.getD (ln b) (s 4) ≤ b ∧ b < Sl.getD (ln b + 1) (s 4)) : ∃ M', f_X8_begin M S = some M' ∧ z_CY Sl.length ln (fun p => z_lb s p (s 4)) (z_lw 2 u (s 6)) (fun k => nI (z_ts (z_sT s) (Sl.getD k (s 4)) (Sl.getD (k + 1) (s 4) - Sl.getD k (s 4)))) M' ∧ z_Cf M M' ∧ z_Lok M (M' 11 3) ∧ (∀ k, 1 ≤ k → k ≤ 24 → k ≠ 11 → k ≠ 12 → k ≠ 13 → M' k = M k) ∧ ∀ v, z_lw 2 u (s 6) = some v → v.2.1 = 2 := by
  have hfu : 100 < bw_fu := by decide
  have hS' := hS
  obtain ⟨hW, hM, hz, c1, c2, c3, c4, hT⟩ := hS
  have w1 : s 4 ≤ 24 := hW.1.1
  have sl := hl.1
  have hp5 := hp.2.2.2.2.1
  obtain ⟨M1, hM1⟩ : ∃ M1, M1 = bw_up M 11 0 (nI Sl.length) := ⟨_, rfl⟩
  have o1 : ∀ b, b ≠ 11 → M1 b = M b := by intro b hb; rw [hM1, z_up_k _ _ _ _ hb]
  have hth : ∀ M' : Mem, M' 1 = M 1 → M' 3 = M 3 → M' 9 = M 9 → ∀ k, k < Sl.length → f_X2_thicknessOf M' (nI k) = some (nI (z_ts (z_sT s) (Sl.getD k (s 4)) (Sl.getD (k + 1) (s 4) - Sl.getD k (s 4)))) := by
    intro M' g1 g3 g9 k hk
    obtain ⟨-, l2, l3, l4⟩ := hl.2.2 k hk
    have B := z_cBo (M := M') w1 hl (by rw [g1]; exact h14) (by rw [g9]; exact h9) hk
    unfold f_X2_thicknessOf f_X2_thicknessOf_J29
    rw [g1, g9, h14, z_wiM (by omega) (by omega), if_pos hk, if_neg (by decide), z_ib (by omega) (by omega), if_pos rfl, nI_clamp (by omega), h9 k (by omega)]
    have q := z_cTh (t := z_sT s) (f := Sl.getD k (s 4)) (n := Sl.getD (k + 1) (s 4) - Sl.getD k (s 4)) (by omega) B (fun j hj => by rw [g3]; exact (hp5 j (by omega)).2.1) (Sl.getD (k + 1) (s 4) - Sl.getD k (s 4)) 0 bw_fu (by omega) (by omega)
    rw [show z_ts (z_sT s) (Sl.getD k (s 4)) 0 = 0 from rfl, ← l_0] at q
    exact q
  have hlo : ∀ M' : Mem, M' 1 = M 1 → M' 9 = M 9 → ∀ b, b < s 4 → f_X2_lineOf M' (nI b) = some (nI (ln b)) := by
    intro M' g1 g9 b hb
    obtain ⟨k1, k2, k3⟩ := hln b hb
    have q := z_cLo (M := M') w1 hl (by rw [g1]; exact h14) (by rw [g9]; exact h9) (b := b) k1 k2 k3 (ln b) 0 bw_fu (by omega) (by omega)
    rw [← l_0] at q
    exact q
  obtain ⟨M2, e1, e2, e3, e4⟩ := z_bgA (S := S) (M0 := M) (F := fun k => nI (z_ts (z_sT s) (Sl.getD k (s 4)) (Sl.getD (k + 1) (s 4) - Sl.getD k (s 4)))) (len := Sl.length) (by omega) hth Sl.length 0 bw_fu M1 (by omega) (by omega) (by rw [hM1, z_up_s]) (o1 1 (by omega)) (o1 3 (by omega)) (o1 9 (by omega)) (fun k hk => by omega)
  obtain ⟨M3, f1, f2, f3⟩ := z_bgB (S := S) (M0 := M) (s := s) (ln := ln) hSl.1 w1 c1.1 (fun i hi => ⟨(c2 i hi).2.2.1, (hW.2.1 i hi).2.2.2.2.1⟩) hlo (s 4) 0 bw_fu M2 (by omega) (by omega) (by intro b g1 g2 g3; rw [e4 b g2 g3, o1 b g1]) (by intro p hp; rw [e3 p hp]; rfl)
  have o3 : ∀ b, b ≠ 11 → b ≠ 12 → b ≠ 13 → M3 b = M b := by intro b g1 g2 g3; rw [f3 b g3, e4 b g2 g3, o1 b g1]
  have c3f : z_Cf M M3 := z_Cf_b (fun b hb => o3 b (by omega) (by omega) (by omega))
  have r11 : M3 11 = M1 11 := by rw [f3 11 (by omega), e4 11 (by omega) (by omega)]
  have st3 : z_Stk M3 S R s u := z_Stk_fr (o3 R (by omega) (by omega) (by omega)) (fun k g1 g2 => o3 k (by omega) (by omega) (by omega)) c3f.2 hS'
  have lws3 : z_Lws n M3 := z_Lws_fr (by rw [o3 0 (by omega) (by omega) (by omega)]) (o3 32 (by omega) (by omega) (by omega)) (o3 52 (by omega) (by omega) (by omega)) (by rw [o3 1 (by omega) (by omega) (by omega)]) (by rw [r11, hM1, z_up_i _ _ _ _ (by omega)]) hL
  obtain ⟨l1, l2, l3⟩ := z_lawOf (k := 2) st3 (by omega) lws3 (fun t ht => by
    have := hl7 t ht
    unfold z_Lok at this ⊢
    rw [o3 0 (by omega) (by omega) (by omega), o3 (S + 7) (by omega) (by omega) (by omega)]; exact this)
  generalize z_lw 2 u (s 6) = lg at *
  have o4 : ∀ b, b ≠ 11 → bw_up M3 11 3 (z_lwI lg) b = M3 b := fun b hb => z_up_k _ _ _ _ hb
  have c4f : z_Cf M (bw_up M3 11 3 (z_lwI lg)) := z_Cf_t c3f (z_Cf_up (by omega))
  refine ⟨bw_up M3 11 3 (z_lwI lg), ?_, ⟨?_, ?_, ?_, z_up_s _ _ _ _, fun v hv => z_LOK_fr (z_Cf_up (by omega)) (l3 v hv).1⟩, c4f, ?_, ?_, fun v hv => (l3 v hv).2⟩
  · unfold f_X8_begin bw_min
    rw [h14, if_neg (show ¬ (24 : Int32) < nI Sl.length from nI_nlt (a := 24) (by omega) (by omega)), z_ml, ← hM1, l_0, e1, l_0, f1]
    have l1' : f_X6_lawOf M3 S 2 = some (z_lwI lg) := l1
    rw [l1', Option.bind_some, z_ml]
  · rw [z_up_i _ _ _ _ (by omega), r11, hM1, z_up_s]
  · intro k hk; rw [o4 12 (by omega), f3 12 (by omega)]; exact e2 k hk
  · intro p hp; rw [o4 13 (by omega)]; exact f2 p hp
  · rw [z_up_s]
    unfold z_Lok at l2 ⊢
    rw [o3 0 (by omega) (by omega) (by omega)] at l2; exact l2
  · intro k g1 g2 g3 g4 g5; rw [o4 k g3, o3 k g3 g4 g5]
theorem z_mBgL {len : Nat} {F : Nat → Int32} {M0 : Mem} (hl : len ≤ 24) (hth : ∀ M' : Mem, M' 98 = M0 98 → M' 105 = M0 105 → ∀ k, k < len → f_X10_thickOf M' (nI k) = some (F k)) : ∀ r i fu (M : Mem), i + r = len → r < fu → M 93 17 = nI len → M 98 = M0 98 → M 105 = M0 105 → (∀ k, k < i → M 118 k = F k) → ∃ M', f_X10_beginsYears_L6 fu (nI i) M = some M' ∧ (∀ k, k < len → M' 118 k = F k) ∧ ∀ b, b ≠ 118 → M' b = M b := by
  intro r
  induction r with
  | zero =>
    intro i fu M h1 h2 h3 h4 h5 h7
    obtain ⟨fu, rfl⟩ : ∃ f, fu = f + 1 := ⟨fu - 1, by omega⟩
    refine ⟨M, ?_, fun k hk => h7 k (by omega), fun _ _ => rfl⟩
    rw [f_X10_beginsYears_L6, h3, if_pos (nI_le (by omega) (by omega))]
  | succ r ih =>
    intro i fu M h1 h2 h3 h4 h5 h7
    obtain ⟨fu, rfl⟩ : ∃ f, fu = f + 1 := ⟨fu - 1, by omega⟩
    have o : ∀ b, b ≠ 118 → bw_up M 118 i (F i) b = M b := fun b hb => z_up_k _ _ _ _ hb
    obtain ⟨M', e1, e2, e4⟩ := ih (i + 1) fu (bw_up M 118 i (F i)) (by omega) (by omega) (by rw [o 93 (by omega)]; exact h3) (by rw [o 98 (by omega)]; exact h4) (by rw [o 105 (by omega)]; exact h5) (by
      intro k hk
      by_cases g : k = i
      · subst g; rw [z_up_s]
      · rw [z_up_i _ _ _ _ g]; exact h7 k (by omega))
    refine ⟨M', ?_, e2, fun b g1 => by rw [e4 b g1, o b g1]⟩
    rw [f_X10_beginsYears_L6, h3, if_neg (nI_ge (by omega) (by omega)), hth M h4 h5 i (by omega), Option.bind_some, z_ib (by omega) (by omega), if_pos rfl, nI_clamp (by omega), z_ml, nI_1]
    exact e1
/-- the model's years begin, where it is settled -/
theorem z_mBg {S : Nat} {M : Mem} {s ln : Nat → Nat} {u : Nat → TU} {T : (Nat → Option Nat) × (Nat → Nat)} {Sl : List Nat} {W pl c q0 : Nat} {d A : Nat → Nat} {lw : Option TU} (hW : z_W s) (hM : z_MR M 94 s) (hT : ∀ t, t < s 6 → z_Txt M S 94 t (u t)) (hk2 : ∀ v, z_lw 2 u (s 6) = some v → v.2.1 = 2) (hp : z_Mp (s 4) W pl c (z_sH s) (z_sT s) d A lw q0 M) (hl : z_Ln (s 4) T Sl) (h17 : M 93 17 = nI Sl.length) (h105 : ∀ k, k ≤ Sl.length → M 105 k = nI (Sl.getD k (s 4))) (h106 : ∀ k, k < Sl.length → ∀ b, Sl.getD k (s 4) ≤ b → b < Sl.getD (k + 1) (s 4) → M 106 b = nI k) (hln : ∀ b, b < s 4 → ln b < Sl.length ∧ Sl.getD (ln b) (s 4) ≤ b ∧ b < Sl.getD (ln b + 1) (s 4)) : ∃ M', f_X10_beginsYears_L6 bw_fu 0 M = some M' ∧ z_MY Sl.length (s 4) ln (z_lw 2 u (s 6)) s (fun k => nI (z_ts (z_sT s) (Sl.getD k (s 4)) (Sl.getD (k + 1) (s 4) - Sl.getD k (s 4)))) M' ∧ ∀ b, b ≠ 118 → M' b = M b := by
  have hfu : 100 < bw_fu := by decide
  have w1 : s 4 ≤ 24 := hW.1.1
  have sl := hl.1
  have r5 := hp.2.2.2.2.1
  have hth : ∀ M' : Mem, M' 98 = M 98 → M' 105 = M 105 → ∀ k, k < Sl.length → f_X10_thickOf M' (nI k) = some (nI (z_ts (z_sT s) (Sl.getD k (s 4)) (Sl.getD (k + 1) (s 4) - Sl.getD k (s 4)))) := by
    intro M' g98 g105 k hk
    obtain ⟨-, l2, l3, l4⟩ := hl.2.2 k hk
    unfold f_X10_thickOf
    rw [z_ib (by omega) (by omega), if_pos rfl, nI_clamp (by omega), g105, h105 k (by omega)]
    have q := z_mTh (M := M') (t := z_sT s) (f := Sl.getD k (s 4)) (n := Sl.getD (k + 1) (s 4) - Sl.getD k (s 4)) (k := k) (by omega) (by omega) (by rw [g105, h105 (k + 1) (by omega)]; congr 1; omega) (fun j hj => by rw [g98]; exact (r5 j (by omega)).2.1) (Sl.getD (k + 1) (s 4) - Sl.getD k (s 4)) 0 bw_fu (by omega) (by omega)
    rw [show z_ts (z_sT s) (Sl.getD k (s 4)) 0 = 0 from rfl, Nat.add_zero, ← l_0] at q
    exact q
  obtain ⟨M', e1, e2, e3⟩ := z_mBgL (M0 := M) (F := fun k => nI (z_ts (z_sT s) (Sl.getD k (s 4)) (Sl.getD (k + 1) (s 4) - Sl.getD k (s 4)))) (len := Sl.length) (by omega) hth Sl.length 0 bw_fu M (by omega) (by omega) h17 rfl rfl (fun k hk => by omega)
  rw [← l_0] at e1
  refine ⟨M', e1, ⟨by rw [e3 93 (by omega)]; exact h17, e2, ?_, by intro i g1 g2; rw [e3 94 (by omega)]; exact hM i g1 g2, rfl, ?_, hk2⟩, e3⟩
  · intro b hb
    obtain ⟨k1, k2, k3⟩ := hln b hb
    rw [e3 106 (by omega)]; exact h106 _ k1 b k2 k3
  · have := z_MLwS (k := 2) hW hM hT (by omega)
    exact z_MLw_fr (e3 94 (by omega)) this
theorem z_lnX {m : Nat} {T : (Nat → Option Nat) × (Nat → Nat)} {Sl : List Nat} (hl : z_Ln m T Sl) : ∃ ln : Nat → Nat, ∀ b, b < m → ln b < Sl.length ∧ Sl.getD (ln b) m ≤ b ∧ b < Sl.getD (ln b + 1) m := by
  refine ⟨fun b => if h : b < m then Classical.choose (z_LnE hl h) else 0, ?_⟩
  intro b hb
  simp only [hb, dif_pos]
  exact Classical.choose_spec (z_LnE hl hb)
