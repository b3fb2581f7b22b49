/-! level 2: text, the model's steps: ends, joining signs, faults behind an operand -/
/-- a closing parenthesis -/
theorem tx_G4 {b : Nat → Nat} {L key i k : Nat} {Mb : Mem} {C W1 W0 : List Nat} {t : Nat → Bool} (hL : L ≤ 96) (hb : ∀ i, i < L → b i < 256) (hl : C.length + (W1 ++ 10020 :: (List.replicate k 10019 ++ W0)).length ≤ i) (hP : i ≤ tx_P b L i) (hv1 : tx_wv W1) (hv : tx_wv W0) (hW1 : ∀ x, x ∈ W1 → x ≠ 10020) (h0 : ∀ y V, W0 = y :: V → y = 10020 ∨ tx_rk y < 6) (hS : tx_S b L i = 3) (hc : b (tx_P b L i) = 41) : tx_Go Mb b L key 0 i C (W1 ++ 10020 :: (List.replicate k 10019 ++ W0)) t 1 0 (i + 1) (C ++ W1 ++ List.replicate k 10019) W0 t := by
  intro n M h
  obtain ⟨g1, g2, g3, g4, g5, g6⟩ := h
  have hfu : bw_fu = 2000 := rfl
  have hi : i < 96 := by have := tx_Pn hP (by omega); omega
  have hvR : tx_wv (List.replicate k 10019 ++ W0) := fun y hy => by
    rcases List.mem_append.mp hy with e | e
    · rw [tx_rp k y e]; omega
    · exact hv y e
  have hvW : tx_wv (W1 ++ 10020 :: (List.replicate k 10019 ++ W0)) := fun y hy => by
    rcases List.mem_append.mp hy with e | e
    · exact hv1 y e
    · exact tx_wv_c (by omega) hvR y e
  have hpaR : tx_pa (List.replicate k 10019 ++ W0) = tx_pa W0 := by rw [tx_pa_a, tx_pa_z (fun x hx => by rw [tx_rp k x hx]; omega), Nat.zero_add]
  have hpa : tx_pa (W1 ++ 10020 :: (List.replicate k 10019 ++ W0)) = 1 + tx_pa W0 := by rw [tx_pa_a, tx_pa_z hW1, tx_pa, hpaR, if_pos rfl, Nat.zero_add]
  have hpl := tx_pa_l W0
  have hlen : (W1 ++ 10020 :: (List.replicate k 10019 ++ W0)).length = W1.length + (k + W0.length + 1) := by rw [List.length_append, List.length_cons, List.length_append, List.length_replicate]
  have hlR : (List.replicate k 10019 ++ W0).length = k + W0.length := by rw [List.length_append, List.length_replicate]
  obtain ⟨M1, e1, e2, e3, e4, e5, e6, e7⟩ := tx_set (r := 0) (W0 := 10020 :: (List.replicate k 10019 ++ W0)) (by omega) (fun y V q => Or.inl (List.cons.inj q).1.symm) W1 C bw_fu M hvW (fun x hx => ⟨hW1 x hx, Nat.zero_le _⟩) (by omega) (by omega) g1 g2 g3 g4 g5
  have s39 : M1 93 39 - 1 = nI (List.replicate k 10019 ++ W0).length := by
    rw [e6.1, List.length_cons, l_1, pk_sub (by omega), Nat.add_sub_cancel]
  have q4 : tx_MC (C ++ W1) (bw_up M1 93 39 (nI (List.replicate k 10019 ++ W0).length)) := ⟨by rw [z_up_i _ _ _ _ (by omega)]; exact e5.1, by rw [z_up_i _ _ _ _ (by omega)]; exact e5.2.1, fun j hj => by rw [z_up_k _ _ _ _ (by omega)]; exact e5.2.2 j hj⟩
  obtain ⟨M2, a1, a2, a3, a4, a5, a6, a7⟩ := tx_set (r := 6) (W0 := W0) (Mb := Mb) (key := nI key) (b := b) (L := L) (i := i) (by omega) h0 (List.replicate k 10019) (C ++ W1) bw_fu (bw_up M1 93 39 (nI (List.replicate k 10019 ++ W0).length)) hvR (fun x hx => by rw [tx_rp k x hx]; exact ⟨by omega, by decide⟩) (by rw [List.length_append]; omega) (by rw [List.length_replicate]; omega) (tx_FR_t e2 (tx_FR_v (by omega))) (tx_MK_o (by rw [z_up_k _ _ _ _ (by omega)]) (fun j _ _ => by rw [z_up_i _ _ _ _ (by omega)]) e3) (by rw [z_up_i _ _ _ _ (by omega)]; exact e4) q4 ⟨z_up_s _ _ _ _, tx_wt_o _ (fun j _ => by rw [z_up_k _ _ _ _ (by omega)]) e6.2.2⟩
  obtain ⟨M3, f1, f2, f3, f4, f5, f6, f7⟩ := tx_goM hL hb (show tx_S b L i ≠ 0 by omega) (by omega) a2 a3 a4 a5 a6
  refine ⟨M3, ⟨f2, f3, f4, f5, f6, ?_⟩, ?_⟩
  · intro j hj
    rw [f7, a7, z_up_k _ _ _ _ (by omega), e7]
    exact g6 j (by omega)
  · have m9 : M 93 29 = 3 := by rw [g2.2.2.2.1, hS]; rfl
    have m0 : ¬ M 93 29 = 0 := by rw [m9]; decide
    have m41 : M 93 30 = 41 := by rw [g2.2.2.2.2.1 (Or.inr hS), hc]; rfl
    have ev : nI (1 + tx_pa W0) - 1 = nI (tx_pa W0) := by rw [l_1, pk_sub (by omega)]; congr 1; omega
    have s1 : f_X10_settle M 0 = some M1 := e1
    have s2 : f_X10_settle (bw_up M1 93 39 (nI (List.replicate k 10019 ++ W0).length)) 6 = some M2 := a1
    rw [show nI 0 = (0 : Int32) from rfl, hpa, tx_l1 m0 m9 m41 (show ¬ nI (1 + tx_pa W0) ≤ 0 from nI_ge (a := 0) (by omega) (by omega)), s1, Option.bind_some, s39, z_ml, s2, Option.bind_some, tx_noO (by omega) hv a6, Option.bind_some, f1, Option.bind_some, ev]
/-- a sign that joins -/
theorem tx_G5 {b : Nat → Nat} {L key i : Nat} {Mb : Mem} {C W1 W0 : List Nat} {t t' : Nat → Bool} (hL : L ≤ 96) (hb : ∀ i, i < L → b i < 256) (hl : C.length + (W1 ++ W0).length ≤ i) (hP : i ≤ tx_P b L i) (hv1 : tx_wv W1) (hv : tx_wv W0) (hj : tx_jc (tx_sg b L i) ≠ 0) (hW1 : ∀ x, x ∈ W1 → x ≠ 10020 ∧ x ≠ 10019 ∧ tx_rk (tx_jc (tx_sg b L i)) ≤ tx_rk x) (h0 : ∀ y V, W0 = y :: V → y = 10020 ∨ tx_rk y < tx_rk (tx_jc (tx_sg b L i))) (hp8 : tx_pa W0 ≤ 8) (ht3 : tx_rk (tx_jc (tx_sg b L i)) = 3 → t (tx_pa W0) = false) (ht : ∀ j, j < tx_pa W0 → t' j = t j) (ht1 : t' (tx_pa W0) = true ↔ (tx_rk (tx_jc (tx_sg b L i)) = 3 ∨ (3 < tx_rk (tx_jc (tx_sg b L i)) ∧ t (tx_pa W0) = true))) : tx_Go Mb b L key 0 i C (W1 ++ W0) t 1 1 (i + 1) (C ++ W1) (tx_jc (tx_sg b L i) :: W0) t' := by
  intro n M h
  obtain ⟨g1, g2, g3, g4, g5, g6⟩ := h
  have hfu : bw_fu = 2000 := rfl
  have hS : tx_S b L i = 3 := by
    refine Classical.byContradiction (fun q => hj ?_)
    unfold tx_sg
    rw [if_neg q]
    decide
  have hsg : tx_sg b L i = b (tx_P b L i) := by unfold tx_sg; rw [if_pos hS]
  have hi : i < 96 := by have := tx_Pn hP (by omega); omega
  have hbP := tx_bP hb (show tx_S b L i ≠ 0 by omega)
  have m9 : M 93 29 = 3 := by rw [g2.2.2.2.1, hS]; rfl
  have m0 : ¬ M 93 29 = 0 := by rw [m9]; decide
  have m30 : M 93 30 = nI (tx_sg b L i) := by rw [hsg]; exact g2.2.2.2.2.1 (Or.inr hS)
  have hsh := tx_shI (by rw [hsg]; exact hbP) m9 m30
  rw [if_neg hj] at hsh
  have hjB : 10010 ≤ tx_jc (tx_sg b L i) ∧ tx_jc (tx_sg b L i) ≤ 10018 := by rcases tx_jcB (tx_sg b L i) with q | q <;> omega
  have hn41 : ¬ M 93 30 = 41 := by
    rw [m30]
    intro q
    have : tx_sg b L i = 41 := (nI_eq (b := 41) (by rw [hsg]; omega) (by omega)).mp q
    rw [this] at hj
    exact hj (by decide)
  generalize hs : tx_jc (tx_sg b L i) = s at hj hW1 h0 ht3 ht1 hsh hjB ⊢
  have hrk := tx_rkI s (by omega)
  have hrB := tx_rkB s
  have hvW : tx_wv (W1 ++ W0) := fun y hy => by
    rcases List.mem_append.mp hy with e | e
    · exact hv1 y e
    · exact hv y e
  have hpa : tx_pa (W1 ++ W0) = tx_pa W0 := by rw [tx_pa_a, tx_pa_z (fun x hx => (hW1 x hx).1), Nat.zero_add]
  have hpas : tx_pa (s :: W0) = tx_pa W0 := by rw [tx_pa, if_neg (by omega), Nat.zero_add]
  have hno : tx_no (W1 ++ W0) = tx_no W0 := by rw [tx_no_a, tx_no_z (fun x hx => (hW1 x hx).2.1), Nat.zero_add]
  have hnos : tx_no (s :: W0) = tx_no W0 := by rw [tx_no, if_neg (by omega), Nat.zero_add]
  have hlen : (W1 ++ W0).length = W1.length + W0.length := List.length_append
  have h115 := g6 (tx_pa W0) (by omega)
  -- the rest, for any new mark
  have main : ∀ x : Int32, (bw_nz x = 0 ↔ t' (tx_pa W0) = false) → ∃ M', tx_MS Mb b L key (i + 1) (C ++ W1) (s :: W0) t' M' ∧ tx_SP n (nI (tx_pa W0)) (nI (tx_no W0)) x M = f_X10_takesE_L28 n (nI (tx_pa W0)) (nI (tx_no W0)) (nI 1) M' := by
    intro x hx
    obtain ⟨M1, e1, e2, e3, e4, e5, e6, e7⟩ := tx_set (r := tx_rk s) (W0 := W0) (Mb := Mb) (key := nI key) (b := b) (L := L) (i := i) (by omega) h0 W1 C bw_fu (bw_up M 115 (tx_pa W0) (bw_nz x)) hvW (fun y hy => ⟨(hW1 y hy).1, (hW1 y hy).2.2⟩) (by omega) (by omega) (tx_FR_t g1 (tx_FR_u (by omega))) (tx_MK_o (by rw [z_up_k _ _ _ _ (by omega)]) (fun j _ _ => by rw [z_up_k _ _ _ _ (by omega)]) g2) (by rw [z_up_k _ _ _ _ (by omega)]; exact g3) ⟨by rw [z_up_k _ _ _ _ (by omega)]; exact g4.1, by rw [z_up_k _ _ _ _ (by omega)]; exact g4.2.1, fun j hj => by rw [z_up_k _ _ _ _ (by omega)]; exact g4.2.2 j hj⟩ ⟨by rw [z_up_k _ _ _ _ (by omega)]; exact g5.1, tx_wt_o _ (fun j _ => by rw [z_up_k _ _ _ _ (by omega)]) g5.2⟩
    obtain ⟨M2, f1, f2, f3, f4, f5, f6, f7⟩ := tx_push (x := s) (C := C ++ W1) hL hb (by rw [List.length_append]; omega) hi (show tx_S b L i ≠ 0 by omega) (by omega) e2 e3 e4 e5 e6
    refine ⟨M2, ⟨f2, f3, f4, f5, f6, ?_⟩, ?_⟩
    · intro j hj
      rw [hpas] at hj
      rw [f7, e7]
      by_cases c : j = tx_pa W0
      · subst c
        rw [z_up_s]; exact hx
      · rw [z_up_i _ _ _ _ c, ht j (by omega)]
        exact g6 j (by omega)
    · have s1 : f_X10_settle (bw_up M 115 (tx_pa W0) (bw_nz x)) (nI (tx_rk s)) = some M1 := e1
      have s39 : bw_up M1 114 W0.length (z_menc s) 93 39 = nI W0.length := by rw [z_up_k _ _ _ _ (by omega)]; exact e6.1
      unfold tx_SP
      rw [hsh, hrk, nI_clamp (by omega), z_ml, s1, Option.bind_some, e6.1, z_ib (by omega) (by omega), if_pos rfl, nI_clamp (by omega), z_ml, s39, nI_1, z_ml, f1, Option.bind_some]
      rfl
  have hib : bw_ib (nI (tx_pa W0)) 10 = true := z_ib (by omega) (by omega)
  have hne : ¬ f_X10_signHere M = 0 := by
    rw [hsh]
    exact tx_11 (P := fun s => ¬ z_menc s = 0) (by decide) (by decide) (by decide) (by decide) (by decide) (by decide) (by decide) (by decide) (by decide) (by decide) (by decide) s (by omega)
  rw [hpa, hno, hpas, hnos, show nI 0 = (0 : Int32) from rfl, tx_l2 m0 (fun q => hn41 q.2.1)]
  by_cases c3 : tx_rk s = 3
  · rw [tx_SG2 hne (by rw [hsh, hrk, c3]; rfl) hib (by rw [nI_clamp (by omega)]; exact h115.mpr (ht3 c3))]
    exact main 1 ⟨fun q => absurd q (by decide), fun q => by rw [ht1.mpr (Or.inl c3)] at q; exact absurd q (by decide)⟩
  · have n3 : ¬ f_X10_rank (f_X10_signHere M) = 3 := by rw [hsh, hrk]; exact z_neI (b := 3) c3 (by omega) (by omega)
    by_cases c4 : tx_rk s ≤ 3
    · rw [tx_SG3 hne n3 hib (by rw [hsh, hrk]; exact nI_le (b := 3) c4 (by omega))]
      refine main 0 ⟨fun _ => ?_, fun _ => by decide⟩
      refine Bool.eq_false_iff.mpr (fun q => ?_)
      have := ht1.mp q
      omega
    · rw [tx_SG4 hne n3 hib (by rw [hsh, hrk]; exact nI_ge (a := 3) (by omega) (by omega)), nI_clamp (by omega)]
      by_cases c5 : M 115 (tx_pa W0) = 0
      · rw [if_pos c5]
        refine main 0 ⟨fun _ => ?_, fun _ => by decide⟩
        refine Bool.eq_false_iff.mpr (fun q => ?_)
        rcases ht1.mp q with r | r
        · omega
        · rw [h115.mp c5] at r; exact absurd r.2 (by decide)
      · rw [if_neg c5]
        refine main 1 ⟨fun q => absurd q (by decide), fun q => ?_⟩
        have ht2 : t (tx_pa W0) = true := by
          cases hh : t (tx_pa W0) with
          | true => rfl
          | false => exact absurd (h115.mpr hh) c5
        rw [ht1.mpr (Or.inr ⟨by omega, ht2⟩)] at q
        exact absurd q (by decide)
/-- neither a joining sign nor an end -/
theorem tx_F2 {b : Nat → Nat} {L key i : Nat} {Mb : Mem} {C W : List Nat} {t : Nat → Bool} (hL : L ≤ 96) (hb : ∀ i, i < L → b i < 256) (hl : C.length + W.length ≤ 96) (hS : tx_S b L i ≠ 0) (hc : ¬ (tx_sg b L i = 41 ∧ 0 < tx_pa W)) (hp8 : tx_pa W ≤ 8) (hj : tx_jc (tx_sg b L i) = 0 ∨ (tx_rk (tx_jc (tx_sg b L i)) = 3 ∧ t (tx_pa W) = true)) : tx_Fa Mb b L key 0 i C W t 1 i := by
  intro n M h
  obtain ⟨g1, g2, g3, g4, g5, g6⟩ := h
  have h4 := tx_S4 (b := b) (L := L) i
  have hbP := tx_bP hb hS
  have m0 : ¬ M 93 29 = 0 := by rw [g2.2.2.2.1]; exact z_neI (b := 0) hS (by omega) (by omega)
  refine ⟨M, ?_, g1, g2.2.2.1⟩
  by_cases c : tx_S b L i = 3
  · have hsg : tx_sg b L i = b (tx_P b L i) := by unfold tx_sg; rw [if_pos c]
    have m9 : M 93 29 = 3 := by rw [g2.2.2.2.1, c]; rfl
    have m30 : M 93 30 = nI (tx_sg b L i) := by rw [hsg]; exact g2.2.2.2.2.1 (Or.inr c)
    have hsh := tx_shI (by rw [hsg]; exact hbP) m9 m30
    rw [show nI 0 = (0 : Int32) from rfl, tx_l2 m0 (fun q => hc ⟨(nI_eq (b := 41) (by rw [hsg]; omega) (by omega)).mp (m30.symm.trans q.2.1), Nat.pos_of_ne_zero (fun e => q.2.2 (by rw [e]; decide))⟩)]
    by_cases hjn : tx_jc (tx_sg b L i) = 0
    · rw [if_pos hjn] at hsh
      exact tx_SG0 hsh
    · obtain ⟨hj, ht⟩ := hj.resolve_left hjn
      have hjB : 10010 ≤ tx_jc (tx_sg b L i) ∧ tx_jc (tx_sg b L i) ≤ 10018 := by rcases tx_jcB (tx_sg b L i) with q | q <;> omega
      rw [if_neg hjn] at hsh
      refine tx_SG1 ?_ ?_ (z_ib (by omega) (by omega)) ?_
      · rw [hsh]
        exact tx_11 (P := fun s => ¬ z_menc s = 0) (by decide) (by decide) (by decide) (by decide) (by decide) (by decide) (by decide) (by decide) (by decide) (by decide) (by decide) _ ⟨hjB.1, by omega⟩
      · rw [hsh, tx_rkI _ ⟨hjB.1, by omega⟩, hj]; rfl
      · rw [nI_clamp (by omega)]
        intro q
        have := (g6 (tx_pa W) (Nat.le_refl _)).mp q
        rw [ht] at this
        exact absurd this (by decide)
  · have m3 : ¬ M 93 29 = 3 := by rw [g2.2.2.2.1]; exact z_neI (b := 3) c (by omega) (by omega)
    rw [show nI 0 = (0 : Int32) from rfl, tx_l2 m0 (fun q => m3 q.1)]
    refine tx_SG0 ?_
    unfold f_X10_signHere
    rw [if_neg m3]
/-- the end in a parenthesis -/
theorem tx_F3 {b : Nat → Nat} {L key i : Nat} {Mb : Mem} {C W1 W0 : List Nat} {t : Nat → Bool} (hl : C.length + (W1 ++ 10020 :: W0).length ≤ 96) (hv : tx_wv (W1 ++ 10020 :: W0)) (hW1 : ∀ x, x ∈ W1 → x ≠ 10020) (hS : tx_S b L i = 0) : tx_Fa Mb b L key 0 i C (W1 ++ 10020 :: W0) t 1 i := by
  intro n M h
  obtain ⟨g1, g2, g3, g4, g5, g6⟩ := h
  have hfu : bw_fu = 2000 := rfl
  have hlen : (W1 ++ 10020 :: W0).length = W1.length + (W0.length + 1) := by rw [List.length_append, List.length_cons]
  have hpl := tx_pa_l W0
  have hpa : tx_pa (W1 ++ 10020 :: W0) = 1 + tx_pa W0 := by rw [tx_pa_a, tx_pa_z hW1, tx_pa, if_pos rfl, Nat.zero_add]
  obtain ⟨M1, e1, e2, e3, e4, e5, e6, e7⟩ := tx_set (r := 0) (W0 := 10020 :: W0) (by omega) (fun y V q => Or.inl (List.cons.inj q).1.symm) W1 C bw_fu M hv (fun x hx => ⟨hW1 x hx, Nat.zero_le _⟩) hl (by omega) g1 g2 g3 g4 g5
  have s1 : f_X10_settle M 0 = some M1 := e1
  refine ⟨M1, ?_, e2, e3.2.2.1⟩
  rw [show nI 0 = (0 : Int32) from rfl, hpa, tx_l0 (by rw [g2.2.2.2.1, hS]; rfl), s1, Option.bind_some, if_neg (show ¬ nI (1 + tx_pa W0) = 0 from nI_ne0 (by omega) (by omega))]
/-- the end of all -/
theorem tx_G6 {b : Nat → Nat} {L key i n : Nat} {Mb M : Mem} {C W : List Nat} {t : Nat → Bool} (hl : C.length + W.length ≤ 96) (hv : tx_wv W) (hW : ∀ x, x ∈ W → x ≠ 10020) (hS : tx_S b L i = 0) (h : tx_MS Mb b L key i C W t M) : ∃ M', f_X10_takesE_L28 (n + 1) (nI (tx_pa W)) (nI (tx_no W)) (nI 0) M = some (1, M') ∧ tx_FR Mb M' ∧ M' 93 32 = nI key ∧ tx_MC (C ++ W) M' := by
  obtain ⟨g1, g2, g3, g4, g5, g6⟩ := h
  have hfu : bw_fu = 2000 := rfl
  obtain ⟨M1, e1, e2, e3, e4, e5, e6, e7⟩ := tx_set (r := 0) (W0 := []) (by omega) (fun y V q => by cases q) W C bw_fu M (by rw [List.append_nil]; exact hv) (fun x hx => ⟨hW x hx, Nat.zero_le _⟩) (by rw [List.append_nil]; exact hl) (by omega) g1 g2 g3 g4 (by rw [List.append_nil]; exact g5)
  have s1 : f_X10_settle M 0 = some M1 := e1
  refine ⟨M1, ?_, e2, e4, e5⟩
  rw [show nI 0 = (0 : Int32) from rfl, tx_pa_z hW, tx_l0 (by rw [g2.2.2.2.1, hS]; rfl), s1, Option.bind_some, if_pos (show nI 0 = 0 from rfl)]
