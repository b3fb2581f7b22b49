/-! level 2: text, what the class keeps while it reads -/
def tx_CS (Mb : Mem) (b : Nat → Nat) (L key i : Nat) (C : List Nat) (M : Mem) : Prop := tx_FR Mb M ∧ tx_cT b L M ∧ M 16 2 = nI (tx_S b L i) ∧ M 16 3 = nI (tx_P b L i) ∧ M 16 4 = nI (tx_E b L i) ∧ M 14 4 = nI key ∧ M 14 2 = nI C.length ∧ M 14 3 = nI (z_ato C) ∧ ∀ k, k < C.length → M 15 k = z_cenc (C.getD k 0)
theorem tx_cAdv {b : Nat → Nat} {L key i : Nat} {Mb M : Mem} {C : List Nat} (hL : L ≤ 96) (hb : ∀ i, i < L → b i < 256) (h : tx_CS Mb b L key i C M) : ∃ M', f_X7_advance M = some M' ∧ tx_CS Mb b L key (i + 1) C M' := by
  obtain ⟨a1, a2, a3, a4, a5, a6, a7, a8, a9⟩ := h
  obtain ⟨M', e1, e2, e3, e4, e5, e6⟩ := tx_adv hL hb a2 (tx_EL i) a5 (tx_S4 i) a3
  refine ⟨M', e1, tx_FR_t a1 (tx_FR_16 e6 (e5.trans a2.1.symm)), ⟨e5, fun j hj => by rw [e6 17 (by omega)]; exact a2.2 j hj⟩, e2, e3, e4, ?_, ?_, ?_, ?_⟩
  · rw [e6 14 (by omega)]; exact a6
  · rw [e6 14 (by omega)]; exact a7
  · rw [e6 14 (by omega)]; exact a8
  · intro k hk; rw [e6 15 (by omega)]; exact a9 k hk
theorem tx_put {M : Mem} {n : Nat} {v : Int32} (h : M 14 2 = nI n) (hn : n < 96) : f_X3_put M v = some (bw_up (bw_up M 15 n v) 14 2 (nI (n + 1))) := by
  unfold f_X3_put
  rw [h, if_neg (show ¬ (96 : Int32) ≤ nI n from nI_ge (b := 96) hn (by omega)), z_ib hn (by omega), if_pos rfl, nI_clamp (by omega), z_ml, z_up_k _ _ _ _ (show 14 ≠ 15 by omega), h, nI_1, z_ml]
theorem tx_cPut {b : Nat → Nat} {L key i x : Nat} {Mb M : Mem} {C : List Nat} (hx : 10010 ≤ x) (hl : C.length < 96) (h : tx_CS Mb b L key i C M) : ∃ M', f_X3_put M (z_cenc x) = some M' ∧ tx_CS Mb b L key i (C ++ [x]) M' := by
  obtain ⟨a1, a2, a3, a4, a5, a6, a7, a8, a9⟩ := h
  refine ⟨_, tx_put a7 hl, tx_FR_t (tx_FR_t a1 (tx_FR_u (by omega))) (tx_FR_u (by omega)), ⟨by rw [z_up_k _ _ _ _ (by omega), z_up_k _ _ _ _ (by omega)]; exact a2.1, fun j hj => by rw [z_up_k _ _ _ _ (by omega), z_up_k _ _ _ _ (by omega)]; exact a2.2 j hj⟩, ?_, ?_, ?_, ?_, ?_, ?_, ?_⟩
  · rw [z_up_k _ _ _ _ (by omega), z_up_k _ _ _ _ (by omega)]; exact a3
  · rw [z_up_k _ _ _ _ (by omega), z_up_k _ _ _ _ (by omega)]; exact a4
  · rw [z_up_k _ _ _ _ (by omega), z_up_k _ _ _ _ (by omega)]; exact a5
  · rw [z_up_i _ _ _ _ (by omega), z_up_k _ _ _ _ (by omega)]; exact a6
  · rw [z_up_s, List.length_append, List.length_singleton]
  · rw [z_up_i _ _ _ _ (by omega), z_up_k _ _ _ _ (by omega), a8, tx_ato_a, z_ato, z_ato, if_neg (by omega)]; rfl
  · intro k hk
    rw [z_up_k _ _ _ _ (by omega)]
    rcases tx_gD hk with ⟨g, e⟩ | ⟨g, e⟩
    · rw [e, z_up_i _ _ _ _ (by omega)]; exact a9 k g
    · rw [e, g, z_up_s]
theorem tx_cOpd {b : Nat → Nat} {L key i x : Nat} {Mb M : Mem} {C : List Nat} (hL : L ≤ 96) (hb : ∀ i, i < L → b i < 256) (hx : x < 10003) (hl : C.length < 96) (h : tx_CS Mb b L key i C M) : ∃ M', f_X3_readsOperand M (z_cenc x) = some (1, M') ∧ tx_CS Mb b L key (i + 1) (C ++ [x]) M' := by
  obtain ⟨a1, a2, a3, a4, a5, a6, a7, a8, a9⟩ := h
  have q : tx_CS Mb b L key i (C ++ [x]) (bw_up (bw_up (bw_up M 15 C.length (z_cenc x)) 14 2 (nI (C.length + 1))) 14 3 (nI (z_ato C + 1))) := by
    refine ⟨tx_FR_t (tx_FR_t (tx_FR_t a1 (tx_FR_u (by omega))) (tx_FR_u (by omega))) (tx_FR_u (by omega)), ⟨by rw [z_up_k _ _ _ _ (by omega), z_up_k _ _ _ _ (by omega), z_up_k _ _ _ _ (by omega)]; exact a2.1, fun j hj => by rw [z_up_k _ _ _ _ (by omega), z_up_k _ _ _ _ (by omega), z_up_k _ _ _ _ (by omega)]; exact a2.2 j hj⟩, ?_, ?_, ?_, ?_, ?_, ?_, ?_⟩
    · rw [z_up_k _ _ _ _ (by omega), z_up_k _ _ _ _ (by omega), z_up_k _ _ _ _ (by omega)]; exact a3
    · rw [z_up_k _ _ _ _ (by omega), z_up_k _ _ _ _ (by omega), z_up_k _ _ _ _ (by omega)]; exact a4
    · rw [z_up_k _ _ _ _ (by omega), z_up_k _ _ _ _ (by omega), z_up_k _ _ _ _ (by omega)]; exact a5
    · rw [z_up_i _ _ _ _ (by omega), z_up_i _ _ _ _ (by omega), z_up_k _ _ _ _ (by omega)]; exact a6
    · rw [z_up_i _ _ _ _ (by omega), z_up_s, List.length_append, List.length_singleton]
    · rw [z_up_s, tx_ato_a, z_ato, z_ato, if_pos hx]
    · intro k hk
      rw [z_up_k _ _ _ _ (by omega), z_up_k _ _ _ _ (by omega)]
      rcases tx_gD hk with ⟨g, e⟩ | ⟨g, e⟩
      · rw [e, z_up_i _ _ _ _ (by omega)]; exact a9 k g
      · rw [e, g, z_up_s]
  obtain ⟨M', e1, e2⟩ := tx_cAdv hL hb q
  refine ⟨M', ?_, e2⟩
  have s3 : bw_up (bw_up M 15 C.length (z_cenc x)) 14 2 (nI (C.length + 1)) 14 3 = nI (z_ato C) := by rw [z_up_i _ _ _ _ (by omega), z_up_k _ _ _ _ (by omega)]; exact a8
  unfold f_X3_readsOperand
  rw [tx_put a7 hl, Option.bind_some, s3, nI_1, z_ml, e1, Option.bind_some]
theorem tx_cSg {b : Nat → Nat} {L key i : Nat} {Mb M : Mem} {C : List Nat} (hL : L ≤ 96) (h : tx_CS Mb b L key i C M) : f_X7_sign M = some (nI (tx_sg b L i)) := by
  obtain ⟨a1, a2, a3, a4, a5, a6, a7, a8, a9⟩ := h
  have h4 := tx_S4 (b := b) (L := L) i
  unfold f_X7_sign tx_sg
  by_cases g : tx_S b L i = 3
  · have hp := (tx_PB (b := b) (L := L) i).2 (by omega)
    rw [if_pos g, if_pos (show M 16 2 = 3 by rw [a3, g]; rfl), a2.1, a4, if_neg (nI_ge hp.1 (by omega)), z_ib (by omega) (by omega), if_pos rfl, nI_clamp (by omega), a2.2 _ hp.1]
  · rw [if_neg g, if_neg (show ¬ M 16 2 = 3 by rw [a3]; exact z_neI (b := 3) g (by omega) (by omega))]
    rfl
theorem tx_cNuL {b : Nat → Nat} {L e : Nat} {M : Mem} (hL : L ≤ 96) (he : e ≤ L) (h : tx_cT b L M) (h4 : M 16 4 = nI e) : ∀ r q v fu, q + r = e → r < fu → (∀ j, q ≤ j → j < e → 48 ≤ b j) → f_X7_number_L7 M fu (nI v) (nI q) = some (nI (tx_nu b r q v)) := by
  intro r
  induction r with
  | zero =>
    intro q v fu hq hf _
    obtain ⟨f, rfl⟩ : ∃ f, fu = f + 1 := ⟨fu - 1, by omega⟩
    rw [f_X7_number_L7, h4, if_pos (nI_le (by omega) (by omega))]
    rfl
  | succ r ih =>
    intro q v fu hq hf hd
    obtain ⟨f, rfl⟩ : ∃ f, fu = f + 1 := ⟨fu - 1, by omega⟩
    have h48 := hd q (by omega) (by omega)
    have hval : nI v * 10 + M 17 (nI q).toNatClampNeg - 48 = nI (10 * v + (b q - 48)) := by
      rw [nI_clamp (by omega), h.2 q (by omega), l_10, l_48, pk_mul, nI_add, pk_sub (by omega)]
      congr 1
      omega
    rw [f_X7_number_L7, h4, if_neg (nI_ge (by omega) (by omega)), h.1, if_neg (nI_ge (by omega) (by omega)), z_ib (by omega) (by omega), if_pos rfl, z_ml, hval, nI_1, ih (q + 1) _ f (by omega) (by omega) (fun j h1 h2 => hd j (by omega) h2)]
    rfl
theorem tx_cNu {b : Nat → Nat} {L key i : Nat} {Mb M : Mem} {C : List Nat} (hL : L ≤ 96) (h : tx_CS Mb b L key i C M) (hS : tx_S b L i = 2) : f_X7_number M = some (nI (tx_nu b (tx_E b L i - tx_P b L i) (tx_P b L i) 0)) := by
  obtain ⟨a1, a2, a3, a4, a5, a6, a7, a8, a9⟩ := h
  have hfu : bw_fu = 2000 := rfl
  have hd := tx_S2 hS
  have hE := tx_EL (b := b) (L := L) i
  have hP := (tx_PB (b := b) (L := L) i).1
  unfold f_X7_number
  rw [a4, l_0]
  exact tx_cNuL hL hE a2 a5 _ _ 0 bw_fu (by omega) (by omega) (fun j h1 h2 => (hd.2 j h1 h2).1)
theorem tx_u16 {c : Nat} (h : c < 256) : ((nI c).toUInt32 % 65536).toInt32 = nI c := by
  have : ∀ c : Fin 256, ((nI c.val).toUInt32 % 65536).toInt32 = nI c.val := by decide +kernel
  exact this ⟨c, h⟩
theorem tx_ixI {M : Mem} {key c : Nat} (hk : key ≤ 2) (h : M 14 4 = nI key) (hc : c < 256) : f_Sindex (f_X3_names M) (nI c) = tx_nI (tx_nm key c) := by
  have h0 : ∀ c : Fin 256, f_Sindex 3 (nI c.val) = tx_nI (tx_nm 0 c.val) := by decide +kernel
  have h1 : ∀ c : Fin 256, f_Sindex 4 (nI c.val) = tx_nI (tx_nm 1 c.val) := by decide +kernel
  have h2 : ∀ c : Fin 256, f_Sindex 5 (nI c.val) = tx_nI (tx_nm 2 c.val) := by decide +kernel
  unfold f_X3_names
  rw [h]
  obtain rfl | rfl | rfl : key = 0 ∨ key = 1 ∨ key = 2 := by omega
  · rw [if_pos (show nI 0 = 0 from rfl)]; exact h0 ⟨c, hc⟩
  · rw [if_neg (show ¬ nI 1 = 0 by decide), if_pos (show nI 1 = 1 from rfl)]; exact h1 ⟨c, hc⟩
  · rw [if_neg (show ¬ nI 2 = 0 by decide), if_neg (show ¬ nI 2 = 1 by decide)]; exact h2 ⟨c, hc⟩
theorem tx_cNa {b : Nat → Nat} {L key i : Nat} {Mb M : Mem} {C : List Nat} (hL : L ≤ 96) (hb : ∀ i, i < L → b i < 256) (hk : key ≤ 2) (h : tx_CS Mb b L key i C M) (hS : tx_S b L i = 1) : f_X7_nameAmong M (f_X3_names M) = some (if tx_E b L i - tx_P b L i = 1 then tx_nI (tx_nm key (b (tx_P b L i))) else -1) := by
  obtain ⟨a1, a2, a3, a4, a5, a6, a7, a8, a9⟩ := h
  have hE := tx_EL (b := b) (L := L) i
  have hP := (tx_PB (b := b) (L := L) i).1
  have hp := (tx_PB (b := b) (L := L) i).2 (by omega)
  have hbP := tx_bP hb (show tx_S b L i ≠ 0 by omega)
  unfold f_X7_nameAmong
  rw [if_pos (show M 16 2 = 1 by rw [a3, hS]; rfl), a5, a4, pk_sub hP]
  by_cases g : tx_E b L i - tx_P b L i = 1
  · rw [if_pos g, if_pos (show nI (tx_E b L i - tx_P b L i) = (1 : Int32) by rw [g]; rfl), a2.1, if_pos (nI_lt hp.1 (by omega)), z_ib (by omega) (by omega), if_pos rfl, nI_clamp (by omega), a2.2 _ hp.1, tx_u16 hbP, tx_ixI hk a6 hbP]
  · rw [if_neg g, if_neg (show ¬ nI (tx_E b L i - tx_P b L i) = (1 : Int32) from z_neI (b := 1) g (by omega) (by omega))]
