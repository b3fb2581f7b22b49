/-! level 2: text, the reading as a whole -/
theorem tx_mBeg {b : Nat → Nat} {L : Nat} {X : Mem} (hL : L ≤ 96) (hb : ∀ i, i < L → b i < 256) (hT : tx_mT b L X) : ∃ X', f_X10_go (bw_up (bw_up X 93 27 0) 93 31 (-1)) = some X' ∧ tx_FR X X' ∧ tx_MK b L 0 X' ∧ X' 111 = X 111 ∧ X' 112 = X 112 := by
  have hO : tx_mO X (bw_up (bw_up X 93 27 0) 93 31 (-1)) := tx_mO_t (tx_mO_u (by omega)) (tx_mO_u (by omega))
  have hc : tx_cl L 0 0 (bw_up (bw_up X 93 27 0) 93 31 (-1)) := by
    intro s _ hs
    rw [z_up_s]
    refine ⟨fun q => ?_, fun q => by omega⟩
    have h1 : ¬ nI s < 0 := nI_pos (by omega)
    rw [← q] at h1
    exact absurd (by decide) h1
  obtain ⟨X', e1, e2, e3, e4, e5, e6, e7, e8⟩ := tx_go (k0 := 0) hL hb (tx_mT_o hT hO) (Nat.zero_le _) (by rw [z_up_i _ _ _ _ (by omega)]; exact z_up_s _ _ _ _) hc
  have hO2 := tx_mO_t hO e8
  exact ⟨X', e1, tx_FR_o hO2, ⟨tx_mT_o hT hO2, e4, e3, e2, e5, e6, e7⟩, hO2.1 _ (by omega), hO2.1 _ (by omega)⟩
theorem tx_mE0 {b : Nat → Nat} {L key : Nat} {X M : Mem} (g1 : tx_FR X M) (g2 : tx_MK b L 1 M) (g3 : M 93 32 = nI key) : ∃ M', f_X10_takesE M = f_X10_takesE_L28 bw_fu (nI (tx_pa [])) (nI (tx_no [])) (nI 1) M' ∧ tx_MS X b L key 1 [] [] (fun _ => false) M' := by
  have e : f_X10_takesE M = f_X10_takesE_L28 bw_fu (nI (tx_pa [])) (nI (tx_no [])) (nI 1) (bw_up (bw_up (bw_up (bw_up M 93 36 0) 93 37 0) 93 39 0) 115 0 (bw_nz 0)) := by
    unfold f_X10_takesE
    rw [z_ml, z_ml, z_ml, z_ml]
    have e0 : (0 : Int32).toNatClampNeg = 0 := by decide
    rw [e0]
    have ea : nI (tx_pa []) = 0 := rfl
    have eb : nI (tx_no []) = 0 := rfl
    have ec : nI 1 = 1 := rfl
    rw [ea, eb, ec]
  refine ⟨_, e, tx_FR_t (tx_FR_t (tx_FR_t (tx_FR_t g1 (tx_FR_v (by omega))) (tx_FR_v (by omega))) (tx_FR_v (by omega))) (tx_FR_u (by omega)), tx_MK_o (by rw [z_up_k _ _ _ _ (by omega), z_up_k _ _ _ _ (by omega), z_up_k _ _ _ _ (by omega), z_up_k _ _ _ _ (by omega)]) (fun j _ _ => by rw [z_up_k _ _ _ _ (by omega), z_up_i _ _ _ _ (by omega), z_up_i _ _ _ _ (by omega), z_up_i _ _ _ _ (by omega)]) g2, ?_, ⟨?_, ?_, fun k hk => absurd hk (Nat.not_lt_zero _)⟩, ⟨?_, trivial⟩, ?_⟩
  · rw [z_up_k _ _ _ _ (by omega), z_up_i _ _ _ _ (by omega), z_up_i _ _ _ _ (by omega), z_up_i _ _ _ _ (by omega)]; exact g3
  · rw [z_up_k _ _ _ _ (by omega), z_up_i _ _ _ _ (by omega), z_up_i _ _ _ _ (by omega), z_up_s]; rfl
  · rw [z_up_k _ _ _ _ (by omega), z_up_i _ _ _ _ (by omega), z_up_s]; rfl
  · rw [z_up_k _ _ _ _ (by omega), z_up_s]; rfl
  · intro j hj
    have : j = 0 := Nat.le_zero.mp hj
    subst this
    rw [z_up_s]
    exact ⟨fun _ => rfl, fun _ => by decide⟩
theorem tx_cn0 {l : Nat} : tx_Cn l 0 0 1 [] [] (fun _ => false) := ⟨fun x hx => absurd hx List.not_mem_nil, rfl, rfl, by decide, fun y V q => (by cases q), fun _ => rfl⟩
/-- the model's text, up to what is told -/
theorem tx_mTx {b : Nat → Nat} {L : Nat} {X : Mem} (hL : L ≤ 96) (hb : ∀ i, i < L → b i < 256) (hT : tx_mT b L X) (hK : z_Key X) : (tx_ky b L = 9 → ∃ X', f_X10_text X = f_X10_text_J33 X' 0 ∧ tx_FR X X' ∧ X' 93 28 = nI (tx_P b L 0)) ∧ (tx_ky b L ≠ 9 → (∀ i', i' ≤ 96 → tx_Fa X b L (tx_ky b L) 1 1 [] [] (fun _ => false) (i' - 1 + 1) i' → ∃ X', f_X10_text X = f_X10_text_J33 X' 0 ∧ tx_FR X X' ∧ X' 93 28 = nI (tx_P b L i')) ∧ (∀ i' D1 W1 t', i' ≤ 96 → tx_Go X b L (tx_ky b L) 1 1 [] [] (fun _ => false) (i' - 1) 0 i' D1 W1 t' → D1.length + W1.length ≤ 96 → tx_wv W1 → (∀ x, x ∈ W1 → x ≠ 10020) → tx_S b L i' = 0 → ∃ X', f_X10_text X = f_X10_text_J33 X' 1 ∧ tx_FR X X' ∧ X' 93 32 = nI (tx_ky b L) ∧ tx_MC (D1 ++ W1) X')) := by
  obtain ⟨X1, a1, a2, a3, a4, a5⟩ := tx_mBeg hL hb hT
  have hK1 : z_Key X1 := ⟨a4.trans hK.1, a5.trans hK.2⟩
  obtain ⟨k1, k2⟩ := tx_mKy hL hb hK1 a2 a3
  have hfu : bw_fu = 2000 := rfl
  have e0 : f_X10_text X = (f_X10_takesKey X1).bind fun q4 => (if q4.1 = 0 then f_X10_text_J32 q4.2 else (f_X10_takesE q4.2).bind fun q20 => f_X10_text_J33 q20.2 (if q20.1 = 0 then (0 : Int32) else (1 : Int32))) := by
    unfold f_X10_text
    rw [z_ml, z_ml, a1, Option.bind_some]
  constructor
  · intro h9
    refine ⟨X1, ?_, a2, a3.2.2.1⟩
    rw [e0, k1 h9, Option.bind_some, if_pos rfl]
    rfl
  · intro h9
    obtain ⟨X2, c1, c2, c3, c4⟩ := k2 h9
    obtain ⟨X3, d1, d2⟩ := tx_mE0 c2 c3 c4
    have e1 : f_X10_text X = (f_X10_takesE_L28 bw_fu (nI (tx_pa [])) (nI (tx_no [])) (nI 1) X3).bind fun q20 => f_X10_text_J33 q20.2 (if q20.1 = 0 then (0 : Int32) else (1 : Int32)) := by
      rw [e0, c1, Option.bind_some, if_neg (show ¬ (1 : Int32) = 0 by decide), d1]
    constructor
    · intro i' hi hF
      obtain ⟨X4, f1, f2, f3⟩ := hF (bw_fu - (i' - 1 + 1)) X3 d2
      rw [show bw_fu - (i' - 1 + 1) + (i' - 1 + 1) = bw_fu by omega] at f1
      refine ⟨X4, ?_, f2, f3⟩
      rw [e1, f1, Option.bind_some, if_pos rfl]
    · intro i' D1 W1 t' hi hG hl hv hW hS
      obtain ⟨X4, f1, f2⟩ := hG (bw_fu - 1 - (i' - 1) + 1) X3 d2
      obtain ⟨X5, g1, g2, g3, g4⟩ := tx_G6 (n := bw_fu - 1 - (i' - 1)) hl hv hW hS f1
      rw [show bw_fu - 1 - (i' - 1) + 1 + (i' - 1) = bw_fu by omega, g1] at f2
      refine ⟨X5, ?_, g2, g3, g4⟩
      rw [e1, f2, Option.bind_some, if_neg (show ¬ (1 : Int32) = 0 by decide)]
theorem tx_both {b : Nat → Nat} {L : Nat} {M : Mem} (hL : L ≤ 96) (hb : ∀ i, i < L → b i < 256) (hT : tx_cT b L M) :
    (∃ i' M', f_X3_read M = some (0, M') ∧ tx_FR M M' ∧ M' 16 3 = nI (tx_P b L i') ∧ ∀ X, tx_mT b L X → z_Key X → ∃ X', f_X10_text X = f_X10_text_J33 X' 0 ∧ tx_FR X X' ∧ X' 93 28 = nI (tx_P b L i')) ∨
    (∃ (key : Nat) (D : List Nat) (M' : Mem), f_X3_read M = (if bw_rok M' = true then some (M' 0 1000 + 1, bw_alloc M') else none) ∧ tx_FR M M' ∧ key ≤ 2 ∧ D.length < 96 ∧ z_twf (z_nms key) D 0 ∧ M' 14 4 = nI key ∧ M' 14 2 = nI D.length ∧ M' 14 3 = nI (z_ato D) ∧ (∀ k, k < D.length → M' 15 k = z_cenc (D.getD k 0)) ∧ ∀ X, tx_mT b L X → z_Key X → ∃ X', f_X10_text X = f_X10_text_J33 X' 1 ∧ tx_FR X X' ∧ X' 93 32 = nI key ∧ tx_MC D X') := by
  have hS4 := tx_S4 (b := b) (L := L) 0
  -- the class begins
  obtain ⟨M3, e1, e2, e3, e4, e5, e6⟩ := tx_adv (p := 0) (k0 := 0) (M := bw_up (bw_up (bw_up (bw_up M 14 2 0) 14 3 0) 16 2 0) 16 4 0) hL hb ⟨by rw [z_up_i _ _ _ _ (by omega), z_up_i _ _ _ _ (by omega), z_up_k _ _ _ _ (by omega), z_up_k _ _ _ _ (by omega)]; exact hT.1, fun i hi => by rw [z_up_k _ _ _ _ (by omega), z_up_k _ _ _ _ (by omega), z_up_k _ _ _ _ (by omega), z_up_k _ _ _ _ (by omega)]; exact hT.2 i hi⟩ (Nat.zero_le _) (z_up_s _ _ _ _) (by omega) (by rw [z_up_i _ _ _ _ (by omega)]; exact z_up_s _ _ _ _)
  have r16 : ∀ x, x ≠ 16 → x ≠ 14 → M3 x = M x := fun x h h' => by rw [e6 x h, z_up_k _ _ _ _ h, z_up_k _ _ _ _ h, z_up_k _ _ _ _ h', z_up_k _ _ _ _ h']
  have q1 : tx_FR M M3 := by
    refine tx_FR_t (tx_FR_t (tx_FR_u (k := 14) (i := 2) (x := 0) (by omega)) (tx_FR_u (k := 14) (i := 3) (x := 0) (by omega))) (tx_FR_16 (fun x hx => by rw [e6 x hx, z_up_k _ _ _ _ hx, z_up_k _ _ _ _ hx]) ?_)
    rw [e5, z_up_k _ _ _ _ (by omega), z_up_k _ _ _ _ (by omega)]
    exact hT.1.symm
  have q2 : tx_cT b L M3 := ⟨e5, fun i hi => by rw [r16 17 (by omega) (by omega)]; exact hT.2 i hi⟩
  have hkh := tx_cKy hL q2 e2 e3 e4
  have e0 : f_X3_read M = bw_ml (bw_up M3 14 4 (tx_nI (tx_ky b L))) fun M4 => (if 0 ≤ M4 14 4 then (f_X7_advance M4).bind fun M5 => ((f_X3_rd 100).1 M5 (0 : Int32) (0 : Int32) (0 : Int32)).bind fun q6 => (if q6.1 = 0 then some ((0 : Int32), q6.2) else (if q6.2 16 2 = 0 then (if bw_rok q6.2 = true then some (q6.2 0 1000 + 1, bw_alloc q6.2) else none) else some ((0 : Int32), q6.2))) else some ((0 : Int32), M4)) := by
    unfold f_X3_read f_X7_begin
    rw [z_ml, z_ml, z_ml, z_ml, e1, Option.bind_some, Option.bind_some, hkh, Option.bind_some]
  have e44 : bw_up M3 14 4 (tx_nI (tx_ky b L)) 14 4 = tx_nI (tx_ky b L) := z_up_s _ _ _ _
  rw [z_ml, e44] at e0
  by_cases h9 : tx_ky b L = 9
  · left
    refine ⟨0, bw_up M3 14 4 (tx_nI (tx_ky b L)), ?_, tx_FR_t q1 (tx_FR_u (by omega)), by rw [z_up_k _ _ _ _ (by omega)]; exact e3, fun X hX hKX => (tx_mTx hL hb hX hKX).1 h9⟩
    rw [e0, if_neg (show ¬ 0 ≤ tx_nI (tx_ky b L) by rw [h9]; decide)]
  · have hk2 : tx_ky b L ≤ 2 := by rcases tx_ky2 b L with q | q <;> omega
    have hS1 : tx_S b L 0 = 1 := by
      refine Classical.byContradiction (fun q => h9 ?_)
      unfold tx_ky
      rw [if_neg q]
    have en : tx_nI (tx_ky b L) = nI (tx_ky b L) := by unfold tx_nI; rw [if_neg h9]
    have hPn := tx_Pn (b := b) (L := L) (i := 0) (Nat.zero_le _) (by omega)
    have c0 : tx_CS M b L (tx_ky b L) 0 [] (bw_up M3 14 4 (nI (tx_ky b L))) := by
      refine ⟨tx_FR_t q1 (tx_FR_u (by omega)), ⟨by rw [z_up_k _ _ _ _ (by omega)]; exact e5, fun i hi => by rw [z_up_k _ _ _ _ (by omega)]; exact q2.2 i hi⟩, by rw [z_up_k _ _ _ _ (by omega)]; exact e2, by rw [z_up_k _ _ _ _ (by omega)]; exact e3, by rw [z_up_k _ _ _ _ (by omega)]; exact e4, z_up_s _ _ _ _, ?_, ?_, fun k hk => absurd hk (Nat.not_lt_zero _)⟩
      · rw [z_up_i _ _ _ _ (by omega), e6 14 (by omega), z_up_k _ _ _ _ (by omega), z_up_k _ _ _ _ (by omega), z_up_i _ _ _ _ (by omega), z_up_s]; rfl
      · rw [z_up_i _ _ _ _ (by omega), e6 14 (by omega), z_up_k _ _ _ _ (by omega), z_up_k _ _ _ _ (by omega), z_up_s]; rfl
    obtain ⟨M5, a1, a2⟩ := tx_cAdv hL hb c0
    rw [en, if_pos (nI_pos' (by omega)), a1, Option.bind_some] at e0
    have hrd := (tx_rd (Mb := M) hL hb hk2 100).1 0 0 0 1 [] M5 (by omega) (by omega) (by omega) (by omega) a2 (by decide) hPn.1
    rw [show nI 0 = (0 : Int32) from rfl] at hrd
    rcases hrd with ⟨i2, D, M6, r1, ⟨r2, r3, r4, r5, r6⟩, r7, r8⟩ | ⟨i2, M6, r1, ⟨r2, r3, r4, r9⟩, r5⟩
    · have hP2 := tx_P96 (b := b) (L := L) (i := i2) hL
      have hS42 := tx_S4 (b := b) (L := L) i2
      rw [List.nil_append] at r2
      rw [r1, Option.bind_some, if_neg (show ¬ (1 : Int32) = 0 by decide)] at e0
      by_cases s0 : tx_S b L i2 = 0
      · right
        rw [if_pos (show M6 16 2 = 0 by rw [r2.2.2.1, s0]; rfl)] at e0
        refine ⟨tx_ky b L, D, M6, e0, r2.1, hk2, by omega, ?_, r2.2.2.2.2.2.1, r2.2.2.2.2.2.2.1, r2.2.2.2.2.2.2.2.1, r2.2.2.2.2.2.2.2.2, fun X hX hKX => ?_⟩
        · have := r6 [] 0 rfl
          rw [List.append_nil] at this
          exact this
        · obtain ⟨D1, W1, t', w1, w2, w3, w4, w5, w6, w7⟩ := r8 X [] _ tx_cn0
          rw [List.nil_append, List.append_nil] at w7
          have hlD : D.length = D1.length + W1.length := by rw [w1, List.length_append]
          rw [w1]
          exact ((tx_mTx hL hb hX hKX).2 h9).2 i2 D1 W1 t' (by omega) w7 (by omega) w2 (fun x hx => (w3 x hx).1) s0
      · left
        rw [if_neg (show ¬ M6 16 2 = 0 by rw [r2.2.2.1]; exact z_neI (b := 0) s0 (by omega) (by omega))] at e0
        refine ⟨i2, M6, e0, r2.1, r2.2.2.2.1, fun X hX hKX => ?_⟩
        obtain ⟨D1, W1, t', w1, w2, w3, w4, w5, w6, w7⟩ := r8 X [] _ tx_cn0
        rw [List.nil_append, List.append_nil] at w7
        have hlD : D.length = D1.length + W1.length := by rw [w1, List.length_append]
        have hpa : tx_pa W1 = 0 := tx_pa_z (fun x hx => (w3 x hx).1)
        have hf : tx_Fa X b L (tx_ky b L) 0 i2 D1 W1 t' 1 i2 := by
          refine tx_F2 hL hb (by omega) s0 (fun q => by omega) (by omega) ?_
          by_cases j0 : tx_jc (tx_sg b L i2) = 0
          · exact Or.inl j0
          · right
            have hr := tx_rkB (tx_jc (tx_sg b L i2))
            have r3' : tx_rk (tx_jc (tx_sg b L i2)) = 3 := by rcases r7 j0 with q | q <;> omega
            rw [hpa]
            exact ⟨r3', w6 (by omega) ⟨j0, r3'⟩⟩
        have hfa := tx_Fa_t w7 hf
        rw [show 1 + (i2 - 1) = i2 - 1 + 1 by omega] at hfa
        exact ((tx_mTx hL hb hX hKX).2 h9).1 i2 (by omega) hfa
    · left
      rw [r1, Option.bind_some, if_pos rfl] at e0
      exact ⟨i2, M6, e0, r2, r3, fun X hX hKX => ((tx_mTx hL hb hX hKX).2 h9).1 i2 r9 (r5 X [] _ tx_cn0)⟩
