/-! level 2: text, the key -/
def tx_ch (w j : Nat) : Int32 := (bw_sbyt.getD w []).getD j 0
def tx_kw (b : Nat → Nat) (L w : Nat) : Bool := decide (tx_E b L 0 - tx_P b L 0 = 4 ∧ nI (b (tx_P b L 0)) = tx_ch w 0 ∧ nI (b (tx_P b L 0 + 1)) = tx_ch w 1 ∧ nI (b (tx_P b L 0 + 2)) = tx_ch w 2 ∧ nI (b (tx_P b L 0 + 3)) = tx_ch w 3)
def tx_ky (b : Nat → Nat) (L : Nat) : Nat := if tx_S b L 0 = 1 then (if tx_kw b L 0 = true then 0 else if tx_kw b L 1 = true then 1 else if tx_kw b L 2 = true then 2 else 9) else 9
theorem tx_ky2 (b : Nat → Nat) (L : Nat) : tx_ky b L = 9 ∨ tx_ky b L ≤ 2 := by
  unfold tx_ky
  repeat' split
  all_goals omega
theorem tx_iw1 {b : Nat → Nat} {L p w j f : Nat} {M : Mem} (hL : L ≤ 96) (hT : tx_cT b L M) (h3 : M 16 3 = nI p) (hp : p + 4 ≤ L) (hw : w < 3) (hj : j < 4) : f_X7_isWord_L28 M w (f + 1) (nI j) = if nI (b (p + j)) = tx_ch w j then f_X7_isWord_L28 M w f (nI (j + 1)) else some 0 := by
  have e1 : f_Slen w = nI 4 := by
    obtain rfl | rfl | rfl : w = 0 ∨ w = 1 ∨ w = 2 := by omega
    all_goals rfl
  have e2 : bw_slen.getD w 0 = 4 := by
    obtain rfl | rfl | rfl : w = 0 ∨ w = 1 ∨ w = 2 := by omega
    all_goals rfl
  have e3 : f_Schar w (nI j) = some (tx_ch w j) := by
    unfold f_Schar
    rw [e2, z_ib (by omega) (by omega), if_pos rfl, nI_clamp (by omega)]
    rfl
  rw [f_X7_isWord_L28, e1, if_neg (nI_ge hj (by omega)), hT.1, h3, nI_add, if_neg (nI_ge (by omega) (by omega)), z_ib (by omega) (by omega), if_pos rfl, e3, Option.bind_some, nI_clamp (by omega), hT.2 _ (by omega), nI_1]
theorem tx_iw2 {w f : Nat} {M : Mem} (hw : w < 3) : f_X7_isWord_L28 M w (f + 1) (nI 4) = some 1 := by
  have e1 : f_Slen w = nI 4 := by
    obtain rfl | rfl | rfl : w = 0 ∨ w = 1 ∨ w = 2 := by omega
    all_goals rfl
  rw [f_X7_isWord_L28, e1, if_pos (nI_le (Nat.le_refl _) (by omega))]
theorem tx_isW {b : Nat → Nat} {L w : Nat} {M : Mem} (hL : L ≤ 96) (hT : tx_cT b L M) (h2 : M 16 2 = nI (tx_S b L 0)) (h3 : M 16 3 = nI (tx_P b L 0)) (h4 : M 16 4 = nI (tx_E b L 0)) (hw : w < 3) : f_X7_isWord M w = some (if tx_S b L 0 = 1 ∧ tx_kw b L w = true then 1 else 0) := by
  have e1 : f_Slen w = nI 4 := by
    obtain rfl | rfl | rfl : w = 0 ∨ w = 1 ∨ w = 2 := by omega
    all_goals rfl
  have hS := tx_S4 (b := b) (L := L) 0
  have hE := tx_EL (b := b) (L := L) 0
  have hP := (tx_PB (b := b) (L := L) 0).1
  unfold f_X7_isWord
  by_cases s1 : tx_S b L 0 = 1
  · rw [if_pos (show M 16 2 = 1 by rw [h2, s1]; rfl), h4, h3, pk_sub hP, e1]
    by_cases c4 : tx_E b L 0 - tx_P b L 0 = 4
    · obtain ⟨f, hf⟩ : ∃ f, bw_fu = f + 1 + 1 + 1 + 1 + 1 := ⟨1995, rfl⟩
      rw [if_pos (show nI (tx_E b L 0 - tx_P b L 0) = nI 4 by rw [c4]), hf, show f_X7_isWord_L28 M w (f + 1 + 1 + 1 + 1 + 1) 0 = f_X7_isWord_L28 M w (f + 1 + 1 + 1 + 1 + 1) (nI 0) from rfl, tx_iw1 hL hT h3 (by omega) hw (by omega), Nat.add_zero]
      by_cases a0 : nI (b (tx_P b L 0)) = tx_ch w 0
      · rw [if_pos a0, tx_iw1 hL hT h3 (by omega) hw (by omega)]
        by_cases a1 : nI (b (tx_P b L 0 + (0 + 1))) = tx_ch w (0 + 1)
        · rw [if_pos a1, tx_iw1 hL hT h3 (by omega) hw (by omega)]
          by_cases a2 : nI (b (tx_P b L 0 + (0 + 1 + 1))) = tx_ch w (0 + 1 + 1)
          · rw [if_pos a2, tx_iw1 hL hT h3 (by omega) hw (by omega)]
            by_cases a3 : nI (b (tx_P b L 0 + (0 + 1 + 1 + 1))) = tx_ch w (0 + 1 + 1 + 1)
            · rw [if_pos a3, show 0 + 1 + 1 + 1 + 1 = 4 from rfl, tx_iw2 hw, if_pos ⟨s1, decide_eq_true ⟨c4, a0, a1, a2, a3⟩⟩]
            · rw [if_neg a3, if_neg (fun q => a3 (of_decide_eq_true q.2).2.2.2.2)]
          · rw [if_neg a2, if_neg (fun q => a2 (of_decide_eq_true q.2).2.2.2.1)]
        · rw [if_neg a1, if_neg (fun q => a1 (of_decide_eq_true q.2).2.2.1)]
      · rw [if_neg a0, if_neg (fun q => a0 (of_decide_eq_true q.2).2.1)]
    · rw [if_neg (show ¬ nI (tx_E b L 0 - tx_P b L 0) = nI 4 from z_neI c4 (by omega) (by omega)), if_neg (fun q => c4 (of_decide_eq_true q.2).1)]
  · rw [if_neg (show ¬ M 16 2 = 1 by rw [h2]; exact z_neI (b := 1) s1 (by omega) (by omega)), if_neg (fun q => s1 q.1)]
theorem tx_cKy {b : Nat → Nat} {L : Nat} {M : Mem} (hL : L ≤ 96) (hT : tx_cT b L M) (h2 : M 16 2 = nI (tx_S b L 0)) (h3 : M 16 3 = nI (tx_P b L 0)) (h4 : M 16 4 = nI (tx_E b L 0)) : f_X3_keyHere M = some (tx_nI (tx_ky b L)) := by
  have w0 := tx_isW hL hT h2 h3 h4 (show 0 < 3 by omega)
  have w1 := tx_isW hL hT h2 h3 h4 (show 1 < 3 by omega)
  have w2 := tx_isW hL hT h2 h3 h4 (show 2 < 3 by omega)
  have n1 : ¬ (1 : Int32) = 0 := by decide
  unfold f_X3_keyHere tx_ky
  by_cases s1 : tx_S b L 0 = 1
  · rw [if_pos s1]
    by_cases k0 : tx_kw b L 0 = true
    · rw [if_pos (show tx_S b L 0 = 1 ∧ tx_kw b L 0 = true from ⟨s1, k0⟩)] at w0
      rw [w0, Option.bind_some, if_neg n1, if_pos k0]; rfl
    · rw [if_neg (show ¬ (tx_S b L 0 = 1 ∧ tx_kw b L 0 = true) from fun q => k0 q.2)] at w0
      rw [w0, Option.bind_some, if_pos rfl, if_neg k0]
      by_cases k1 : tx_kw b L 1 = true
      · rw [if_pos (show tx_S b L 0 = 1 ∧ tx_kw b L 1 = true from ⟨s1, k1⟩)] at w1
        rw [w1, Option.bind_some, if_neg n1, if_pos k1]; rfl
      · rw [if_neg (show ¬ (tx_S b L 0 = 1 ∧ tx_kw b L 1 = true) from fun q => k1 q.2)] at w1
        rw [w1, Option.bind_some, if_pos rfl, if_neg k1]
        by_cases k2 : tx_kw b L 2 = true
        · rw [if_pos (show tx_S b L 0 = 1 ∧ tx_kw b L 2 = true from ⟨s1, k2⟩)] at w2
          rw [w2, Option.bind_some, if_neg n1, if_pos k2]; rfl
        · rw [if_neg (show ¬ (tx_S b L 0 = 1 ∧ tx_kw b L 2 = true) from fun q => k2 q.2)] at w2
          rw [w2, Option.bind_some, if_pos rfl, if_neg k2]; rfl
  · rw [if_neg (show ¬ (tx_S b L 0 = 1 ∧ tx_kw b L 0 = true) from fun q => s1 q.1)] at w0
    rw [if_neg (show ¬ (tx_S b L 0 = 1 ∧ tx_kw b L 1 = true) from fun q => s1 q.1)] at w1
    rw [if_neg (show ¬ (tx_S b L 0 = 1 ∧ tx_kw b L 2 = true) from fun q => s1 q.1)] at w2
    rw [w0, Option.bind_some, if_pos rfl, w1, Option.bind_some, if_pos rfl, w2, Option.bind_some, if_pos rfl, if_neg s1]; rfl
theorem tx_k112 {M : Mem} (h : z_Key M) {w : Nat} (hw : w < 4) : M 112 w = nI (4 * w) := by
  rw [h.2]
  obtain rfl | rfl | rfl | rfl : w = 0 ∨ w = 1 ∨ w = 2 ∨ w = 3 := by omega
  all_goals rfl
theorem tx_k111 {M : Mem} (h : z_Key M) {w j : Nat} (hw : w < 3) (hj : j < 4) : M 111 (4 * w + j) = tx_ch w j := by
  rw [h.1]
  obtain rfl | rfl | rfl : w = 0 ∨ w = 1 ∨ w = 2 := by omega
  all_goals obtain rfl | rfl | rfl | rfl : j = 0 ∨ j = 1 ∨ j = 2 ∨ j = 3 := by omega
  all_goals rfl
theorem tx_kt1 {b : Nat → Nat} {L p w j f : Nat} {M : Mem} (hL : L ≤ 96) (hT : tx_mT b L M) (hK : z_Key M) (h8 : M 93 28 = nI p) (hp : p + 4 ≤ L) (hw : w < 3) (hj : j < 4) : f_X10_takesKey_L55 M (nI w) (nI 4) (f + 1) 1 (nI j) = f_X10_takesKey_L55 M (nI w) (nI 4) f (if nI (b (p + j)) = tx_ch w j then 1 else 0) (nI (j + 1)) := by
  rw [f_X10_takesKey_L55, if_neg (nI_ge hj (by omega)), if_neg (show ¬ (1 : Int32) = 0 by decide), h8, nI_add, z_ib (by omega) (by omega), if_pos rfl, z_ib (by omega) (by omega), if_pos rfl, nI_clamp (show w < 2 ^ 31 by omega), tx_k112 hK (by omega), nI_add, z_ib (by omega) (by omega), if_pos rfl, nI_clamp (by omega), nI_clamp (by omega), hT.2 _ (by omega), tx_k111 hK hw hj, z_ml, nI_1]
theorem tx_kt0 {w j f : Nat} {M : Mem} : f_X10_takesKey_L55 M (nI w) (nI 4) (f + 1) 0 (nI j) = some 0 := by
  rw [f_X10_takesKey_L55]
  split
  · rfl
  · rw [if_pos rfl]
theorem tx_kt4 {w f : Nat} {v : Int32} {M : Mem} : f_X10_takesKey_L55 M (nI w) (nI 4) (f + 1) v (nI 4) = some v := by
  rw [f_X10_takesKey_L55, if_pos (nI_le (Nat.le_refl _) (by omega))]
theorem tx_kt {b : Nat → Nat} {L w : Nat} {M : Mem} (hL : L ≤ 96) (hK : z_Key M) (g2 : tx_MK b L 0 M) (hw : w < 3) : f_X10_takesKey_L55 M (nI w) (nI 4) bw_fu (if nI 4 = nI (tx_E b L 0 - tx_P b L 0) then 1 else 0) 0 = some (if tx_kw b L w = true then 1 else 0) := by
  obtain ⟨f, hf⟩ : ∃ f, bw_fu = f + 1 + 1 + 1 + 1 + 1 := ⟨1995, rfl⟩
  have hE := tx_EL (b := b) (L := L) 0
  have hP := (tx_PB (b := b) (L := L) 0).1
  rw [hf]
  by_cases c4 : tx_E b L 0 - tx_P b L 0 = 4
  · rw [if_pos (show nI 4 = nI (tx_E b L 0 - tx_P b L 0) by rw [c4])]
    have st := fun (j f : Nat) (hj : j < 4) => tx_kt1 (f := f) hL g2.1 hK g2.2.2.1 (show tx_P b L 0 + 4 ≤ L by omega) hw hj
    rw [show f_X10_takesKey_L55 M (nI w) (nI 4) (f + 1 + 1 + 1 + 1 + 1) 1 0 = f_X10_takesKey_L55 M (nI w) (nI 4) (f + 1 + 1 + 1 + 1 + 1) 1 (nI 0) from rfl, st 0 _ (by omega)]
    by_cases a0 : nI (b (tx_P b L 0 + 0)) = tx_ch w 0
    · rw [if_pos a0, st (0 + 1) _ (by omega)]
      by_cases a1 : nI (b (tx_P b L 0 + (0 + 1))) = tx_ch w (0 + 1)
      · rw [if_pos a1, st (0 + 1 + 1) _ (by omega)]
        by_cases a2 : nI (b (tx_P b L 0 + (0 + 1 + 1))) = tx_ch w (0 + 1 + 1)
        · rw [if_pos a2, st (0 + 1 + 1 + 1) _ (by omega), show 0 + 1 + 1 + 1 + 1 = 4 from rfl, tx_kt4]
          by_cases a3 : nI (b (tx_P b L 0 + (0 + 1 + 1 + 1))) = tx_ch w (0 + 1 + 1 + 1)
          · rw [if_pos a3, if_pos (show tx_kw b L w = true from decide_eq_true ⟨c4, a0, a1, a2, a3⟩)]
          · rw [if_neg a3, if_neg (fun q => a3 (of_decide_eq_true q).2.2.2.2)]
        · rw [if_neg a2, tx_kt0, if_neg (fun q => a2 (of_decide_eq_true q).2.2.2.1)]
      · rw [if_neg a1, tx_kt0, if_neg (fun q => a1 (of_decide_eq_true q).2.2.1)]
    · rw [if_neg a0, tx_kt0, if_neg (fun q => a0 (of_decide_eq_true q).2.1)]
  · have h := tx_kt0 (w := w) (j := 0) (f := f + 1 + 1 + 1 + 1) (M := M)
    rw [if_neg (show ¬ nI 4 = nI (tx_E b L 0 - tx_P b L 0) from z_neI (fun q => c4 q.symm) (by omega) (by omega)), if_neg (fun q => c4 (of_decide_eq_true q).1)]
    exact h
theorem tx_k12 {b : Nat → Nat} {L w f : Nat} {M : Mem} (hL : L ≤ 96) (hK : z_Key M) (g2 : tx_MK b L 0 M) (hw : w < 3) : f_X10_takesKey_L12 M (f + 1) (nI w) = if tx_kw b L w = true then (f_X10_go (bw_up M 93 32 (nI w))).bind fun q => some ((1 : Int32), q) else f_X10_takesKey_L12 M f (nI (w + 1)) := by
  have hP := (tx_PB (b := b) (L := L) 0).1
  have e4 : nI (4 * (w + 1)) - nI (4 * w) = nI 4 := by rw [pk_sub (by omega)]; congr 1; omega
  rw [f_X10_takesKey_L12, if_neg (show ¬ (3 : Int32) ≤ nI w from nI_ge (b := 3) hw (by omega)), nI_1, z_ib (by omega) (by omega), if_pos rfl, z_ib (by omega) (by omega), if_pos rfl, nI_clamp (by omega), nI_clamp (by omega), tx_k112 hK (by omega), tx_k112 hK (by omega), e4, z_ml, g2.2.1, g2.2.2.1, pk_sub hP, z_ml, tx_kt hL hK g2 hw, Option.bind_some]
  by_cases c : tx_kw b L w = true
  · rw [if_pos c, if_neg (show ¬ (1 : Int32) = 0 by decide), if_pos c, z_ml]
  · rw [if_neg c, if_pos rfl, if_neg c]
theorem tx_mKy {b : Nat → Nat} {L : Nat} {Mb M : Mem} (hL : L ≤ 96) (hb : ∀ i, i < L → b i < 256) (hK : z_Key M) (g1 : tx_FR Mb M) (g2 : tx_MK b L 0 M) : (tx_ky b L = 9 → f_X10_takesKey M = some (0, M)) ∧ (tx_ky b L ≠ 9 → ∃ M', f_X10_takesKey M = some (1, M') ∧ tx_FR Mb M' ∧ tx_MK b L 1 M' ∧ M' 93 32 = nI (tx_ky b L)) := by
  have hS := tx_S4 (b := b) (L := L) 0
  unfold f_X10_takesKey
  by_cases s1 : tx_S b L 0 = 1
  · rw [if_pos (show M 93 29 = 1 by rw [g2.2.2.2.1, s1]; rfl)]
    have fin : ∀ w : Nat, ∃ M', ((f_X10_go (bw_up M 93 32 (nI w))).bind fun q => some ((1 : Int32), q)) = some (1, M') ∧ tx_FR Mb M' ∧ tx_MK b L 1 M' ∧ M' 93 32 = nI w := by
      intro w
      have q2 : tx_MK b L 0 (bw_up M 93 32 (nI w)) := tx_MK_o (z_up_k _ _ _ _ (by omega)) (fun j _ _ => z_up_i _ _ _ _ (by omega)) g2
      obtain ⟨M', e1, e2, e3⟩ := tx_goK hL hb q2 (by omega) (by omega)
      refine ⟨M', by rw [e1, Option.bind_some], tx_FR_t (tx_FR_t g1 (tx_FR_v (by omega))) (tx_FR_o e3), e2, ?_⟩
      rw [e3.2 32 (by omega), z_up_s]
    obtain ⟨f, hf⟩ : ∃ f, bw_fu = f + 1 + 1 + 1 + 1 := ⟨1996, rfl⟩
    unfold tx_ky
    rw [if_pos s1, hf, show f_X10_takesKey_L12 M (f + 1 + 1 + 1 + 1) 0 = f_X10_takesKey_L12 M (f + 1 + 1 + 1 + 1) (nI 0) from rfl, tx_k12 hL hK g2 (by omega)]
    by_cases k0 : tx_kw b L 0 = true
    · rw [if_pos k0, if_pos k0]
      exact ⟨fun q => by omega, fun _ => fin 0⟩
    · rw [if_neg k0, if_neg k0, tx_k12 hL hK g2 (by omega)]
      by_cases k1 : tx_kw b L 1 = true
      · rw [if_pos k1, if_pos k1]
        exact ⟨fun q => by omega, fun _ => fin 1⟩
      · rw [if_neg k1, if_neg k1, tx_k12 hL hK g2 (by omega)]
        by_cases k2 : tx_kw b L 2 = true
        · rw [if_pos k2, if_pos k2]
          exact ⟨fun q => by omega, fun _ => fin 2⟩
        · rw [if_neg k2, if_neg k2, f_X10_takesKey_L12, if_pos (show (3 : Int32) ≤ nI (0 + 1 + 1 + 1) by decide)]
          exact ⟨fun _ => rfl, fun q => absurd rfl q⟩
  · have e : tx_ky b L = 9 := by unfold tx_ky; rw [if_neg s1]
    rw [if_neg (show ¬ M 93 29 = 1 by rw [g2.2.2.2.1]; exact z_neI (b := 1) s1 (by omega) (by omega))]
    exact ⟨fun _ => rfl, fun q => absurd e q⟩
