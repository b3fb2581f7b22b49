/-! level 2: text, class and model together: a piece -/
def tx_Pu (nm : Nat) (D : List Nat) : Prop := ∀ l d, z_twf nm l (d + 1) → z_twf nm (D ++ l) d
def tx_Nj (b : Nat → Nat) (L l i : Nat) : Prop := tx_jc (tx_sg b L i) ≠ 0 → (tx_rk (tx_jc (tx_sg b L i)) < l + 1 ∨ tx_rk (tx_jc (tx_sg b L i)) = 3)
def tx_te (b : Nat → Nat) (L i : Nat) : Prop := tx_jc (tx_sg b L i) ≠ 0 ∧ tx_rk (tx_jc (tx_sg b L i)) = 3
def tx_Cn (l op no i : Nat) (C W : List Nat) (t : Nat → Bool) : Prop := tx_wv W ∧ tx_pa W = op ∧ tx_no W = no ∧ C.length + W.length ≤ i ∧ (∀ y V, W = y :: V → y = 10020 ∨ tx_rk y < l + 1) ∧ (l ≤ 2 → t op = false)
def tx_Gd (b : Nat → Nat) (L key l op no i : Nat) (C : List Nat) (i' : Nat) (D : List Nat) : Prop := ∀ (Mb : Mem) (W : List Nat) (t : Nat → Bool), tx_Cn l op no i C W t → ∃ (D1 W1 : List Nat) (t' : Nat → Bool), D = D1 ++ W1 ∧ tx_wv W1 ∧ (∀ x, x ∈ W1 → x ≠ 10020 ∧ x ≠ 10019 ∧ l + 1 ≤ tx_rk x) ∧ (∀ j, j < op → t' j = t j) ∧ (2 < l → t' op = t op) ∧ (l ≤ 2 → tx_te b L i' → t' op = true) ∧ tx_Go Mb b L key 1 i C W t (i' - i) 0 i' (C ++ D1) (W1 ++ W) t'
def tx_Bd (b : Nat → Nat) (L key l op no i : Nat) (C : List Nat) (i' : Nat) : Prop := ∀ (Mb : Mem) (W : List Nat) (t : Nat → Bool), tx_Cn l op no i C W t → tx_Fa Mb b L key 1 i C W t (i' - i + 1) i'
def tx_CnP (op no i k : Nat) (C W0 : List Nat) : Prop := tx_wv W0 ∧ tx_pa W0 = op ∧ k + tx_no W0 = no ∧ C.length + (List.replicate k 10019 ++ W0).length ≤ i ∧ (∀ y V, W0 = y :: V → y = 10020 ∨ tx_rk y < 6)
def tx_GdP (b : Nat → Nat) (L key op no i : Nat) (C : List Nat) (i' : Nat) (D : List Nat) : Prop := ∀ (Mb : Mem) (k : Nat) (W0 : List Nat) (t : Nat → Bool), tx_CnP op no i k C W0 → ∃ t' : Nat → Bool, (∀ j, j ≤ op → t' j = t j) ∧ tx_Go Mb b L key 1 i C (List.replicate k 10019 ++ W0) t (i' - i) 0 i' (C ++ D ++ List.replicate k 10019) W0 t'
def tx_BdP (b : Nat → Nat) (L key op no i : Nat) (C : List Nat) (i' : Nat) : Prop := ∀ (Mb : Mem) (k : Nat) (W0 : List Nat) (t : Nat → Bool), tx_CnP op no i k C W0 → tx_Fa Mb b L key 1 i C (List.replicate k 10019 ++ W0) t (i' - i + 1) i'
def tx_Ok (Mb : Mem) (b : Nat → Nat) (L key i : Nat) (C : List Nat) (i' : Nat) (D : List Nat) (M' : Mem) : Prop := tx_CS Mb b L key i' (C ++ D) M' ∧ i < i' ∧ i' ≤ tx_P b L i' ∧ D.length ≤ i' - i ∧ tx_Pu (z_nms key) D
def tx_Ko (Mb : Mem) (b : Nat → Nat) (L i i' : Nat) (M' : Mem) : Prop := tx_FR Mb M' ∧ M' 16 3 = nI (tx_P b L i') ∧ i ≤ i' ∧ i' ≤ 96
def tx_Rs (Mb : Mem) (b : Nat → Nat) (L key l op no i : Nat) (C : List Nat) (r : Option (Int32 × Mem)) : Prop := (∃ i' D M', r = some (1, M') ∧ tx_Ok Mb b L key i C i' D M' ∧ tx_Nj b L l i' ∧ tx_Gd b L key l op no i C i' D) ∨ (∃ i' M', r = some (0, M') ∧ tx_Ko Mb b L i i' M' ∧ tx_Bd b L key l op no i C i')
def tx_RsP (Mb : Mem) (b : Nat → Nat) (L key op no i : Nat) (C : List Nat) (r : Option (Int32 × Mem)) : Prop := (∃ i' D M', r = some (1, M') ∧ tx_Ok Mb b L key i C i' D M' ∧ tx_GdP b L key op no i C i' D) ∨ (∃ i' M', r = some (0, M') ∧ tx_Ko Mb b L i i' M' ∧ tx_BdP b L key op no i C i')
theorem tx_op2 {b : Nat → Nat} {L key i : Nat} (g : tx_S b L i = 2) : tx_op b L key i = tx_nu b (tx_E b L i - tx_P b L i) (tx_P b L i) 0 ∧ tx_op b L key i < 10000 := by
  have e : tx_op b L key i = tx_nu b (tx_E b L i - tx_P b L i) (tx_P b L i) 0 := by unfold tx_op; rw [if_pos g]
  refine ⟨e, ?_⟩
  rw [e]
  have h2 := tx_S2 g
  have h3 := tx_PB (b := b) (L := L) i
  have h1 := tx_nuB (b := b) (tx_E b L i - tx_P b L i) (tx_P b L i) 0 (fun q a1 a2 => (h2.2 q a1 (by omega)).2)
  have h4 : 10 ^ (tx_E b L i - tx_P b L i) ≤ 10 ^ 4 := Nat.pow_le_pow_right (by omega) h2.1
  simp only [Nat.zero_add, Nat.one_mul] at h1
  have h5 : (10 : Nat) ^ 4 = 10000 := by decide
  omega
theorem tx_P96 {b : Nat → Nat} {L i : Nat} (hL : L ≤ 96) : tx_P b L i ≤ 96 := by
  have h1 := (tx_PB (b := b) (L := L) i).1
  have h2 := tx_EL (b := b) (L := L) i
  omega
theorem tx_Pu1 {nm x : Nat} (h : x < 10000 + nm) : tx_Pu nm [x] := by
  intro l d hl
  show z_twf nm (x :: l) d
  rw [z_twf, if_pos h]
  exact hl
theorem tx_PuN {nm : Nat} {D : List Nat} (hn : nm ≤ 3) (h : tx_Pu nm D) : tx_Pu nm (D ++ [10019]) := by
  intro l d hl
  rw [List.append_assoc]
  refine h _ d ?_
  show z_twf nm (10019 :: l) (d + 1)
  rw [z_twf, if_neg (by omega), if_pos rfl]
  exact ⟨by omega, hl⟩
theorem tx_PuJ {nm s : Nat} {D E : List Nat} (hn : nm ≤ 3) (hs : 10010 ≤ s ∧ s ≤ 10018) (h : tx_Pu nm D) (g : tx_Pu nm E) : tx_Pu nm (D ++ (E ++ [s])) := by
  intro l d hl
  rw [List.append_assoc, List.append_assoc]
  refine h _ d (g _ (d + 1) ?_)
  show z_twf nm (s :: l) (d + 1 + 1)
  rw [z_twf, if_neg (by omega), if_neg (by omega)]
  exact ⟨by omega, by omega, by omega, hl⟩
theorem tx_pc {b : Nat → Nat} {L key op no i : Nat} {Mb M : Mem} {C : List Nat} {R0 : Mem → Int32 → Int32 → Int32 → Option (Int32 × Mem)} {R1 : Mem → Int32 → Int32 → Option (Int32 × Mem)} (hL : L ≤ 96) (hb : ∀ i, i < L → b i < 256) (hk : key ≤ 2) (hop : op ≤ 8) (hno : no ≤ 8) (h : tx_CS Mb b L key i C M) (hl : C.length ≤ i) (hP : i ≤ tx_P b L i)
    (hR0 : op < 8 → ∀ (i : Nat) (C : List Nat) (M : Mem), tx_CS Mb b L key i C M → C.length ≤ i → i ≤ tx_P b L i → tx_Rs Mb b L key 0 (op + 1) no i C (R0 M 0 (nI (op + 1)) (nI no)))
    (hR1 : no < 8 → ∀ (i : Nat) (C : List Nat) (M : Mem), tx_CS Mb b L key i C M → C.length ≤ i → i ≤ tx_P b L i → tx_RsP Mb b L key op (no + 1) i C (R1 M (nI op) (nI (no + 1)))) : tx_RsP Mb b L key op no i C (f_X3_readsPiece R0 R1 M (nI op) (nI no)) := by
  have hP96 := tx_P96 (b := b) (L := L) (i := i) hL
  have h4 := tx_S4 (b := b) (L := L) i
  have hn3 := tx_nms3 key
  have noR : ∀ (k : Nat) (W0 : List Nat), k + tx_no W0 = no → tx_no (List.replicate k 10019 ++ W0) = no := fun k W0 q => by rw [tx_no_a, tx_no_p]; exact q
  have paR : ∀ (k : Nat) (W0 : List Nat), tx_pa W0 = op → tx_pa (List.replicate k 10019 ++ W0) = op := fun k W0 q => by rw [tx_pa_a, tx_pa_z (fun x hx => by rw [tx_rp k x hx]; omega), Nat.zero_add]; exact q
  have wvR : ∀ (k : Nat) (W0 : List Nat), tx_wv W0 → tx_wv (List.replicate k 10019 ++ W0) := fun k W0 q y hy => by
    rcases List.mem_append.mp hy with e | e
    · rw [tx_rp k y e]; omega
    · exact q y e
  have bad : tx_op b L key i = 20000 → ¬ (tx_S b L i = 3 ∧ b (tx_P b L i) = 33 ∧ no < 8) → ¬ (tx_S b L i = 3 ∧ b (tx_P b L i) = 40 ∧ op < 8) → tx_RsP Mb b L key op no i C (some (0, M)) := by
    intro h1 h2 h3
    refine Or.inr ⟨i, M, rfl, ⟨h.1, h.2.2.2.1, Nat.le_refl _, by omega⟩, ?_⟩
    intro Mb' k W0 t hc
    obtain ⟨c1, c2, c3, c4, c5⟩ := hc
    rw [Nat.sub_self]
    exact tx_F1 hL hb hk (by omega) h1 (by rw [noR k W0 c3]; exact h2) (by rw [paR k W0 c2]; exact h3)
  have good : tx_op b L key i < 10003 → ∀ M', tx_CS Mb b L key (i + 1) (C ++ [tx_op b L key i]) M' → tx_RsP Mb b L key op no i C (some (1, M')) := by
    intro hx M' hM'
    have hB : tx_op b L key i < 10000 + z_nms key ∧ (tx_S b L i = 1 ∨ tx_S b L i = 2) := by rcases tx_opB (b := b) (L := L) (key := key) (i := i) with q | q <;> omega
    refine Or.inl ⟨i + 1, [tx_op b L key i], M', rfl, ⟨hM', by omega, (tx_Pn hP (by omega)).1, by rw [List.length_singleton]; omega, tx_Pu1 hB.1⟩, ?_⟩
    intro Mb' k W0 t hc
    obtain ⟨c1, c2, c3, c4, c5⟩ := hc
    refine ⟨t, fun _ _ => rfl, ?_⟩
    have q := tx_G3 (Mb := Mb') (t := t) hL hb hk c4 hP c1 hx c5
    rw [show i + 1 - i = 1 by omega, List.append_assoc, List.singleton_append]
    exact q
  have hSg := tx_cSg hL h
  unfold f_X3_readsPiece
  by_cases s2 : tx_S b L i = 2
  · have hi : i < 96 := by have := tx_Pn hP (by omega); omega
    obtain ⟨o1, o2⟩ := tx_op2 (key := key) s2
    obtain ⟨M', e1, e2⟩ := tx_cOpd hL hb (x := tx_op b L key i) (by omega) (by omega) h
    have ec : z_cenc (tx_op b L key i) = nI (tx_nu b (tx_E b L i - tx_P b L i) (tx_P b L i) 0) := by unfold z_cenc; rw [if_pos o2, o1]
    rw [ec] at e1
    rw [if_pos (show M 16 2 = 2 by rw [h.2.2.1, s2]; rfl), tx_cNu hL h s2, Option.bind_some, e1, Option.bind_some]
    exact good (by omega) M' e2
  · rw [if_neg (show ¬ M 16 2 = 2 by rw [h.2.2.1]; exact z_neI (b := 2) s2 (by omega) (by omega))]
    by_cases s1 : tx_S b L i = 1
    · have hi : i < 96 := by have := tx_Pn hP (by omega); omega
      rw [if_pos (show M 16 2 = 1 by rw [h.2.2.1, s1]; rfl), tx_cNa hL hb hk h s1, Option.bind_some]
      by_cases c : tx_E b L i - tx_P b L i = 1 ∧ tx_nm key (b (tx_P b L i)) ≠ 9
      · have eo : tx_op b L key i = 10000 + tx_nm key (b (tx_P b L i)) := by unfold tx_op; rw [if_neg s2, if_pos ⟨s1, c⟩]
        have h3 := tx_nm3 key (b (tx_P b L i))
        obtain ⟨M', e1, e2⟩ := tx_cOpd hL hb (x := tx_op b L key i) (by omega) (by omega) h
        have ec : z_cenc (tx_op b L key i) = -1 - nI (tx_nm key (b (tx_P b L i))) := by
          rw [eo]
          have h5 : tx_nm key (b (tx_P b L i)) < 3 := by omega
          generalize tx_nm key (b (tx_P b L i)) = j at h5
          obtain rfl | rfl | rfl : j = 0 ∨ j = 1 ∨ j = 2 := by omega
          all_goals decide
        have en : tx_nI (tx_nm key (b (tx_P b L i))) = nI (tx_nm key (b (tx_P b L i))) := by unfold tx_nI; rw [if_neg c.2]
        rw [ec] at e1
        rw [if_pos c.1, en, if_neg (nI_pos (by omega)), e1, Option.bind_some, if_neg (show ¬ (1 : Int32) = 0 by decide)]
        exact good (by omega) M' e2
      · have eo : tx_op b L key i = 20000 := by unfold tx_op; rw [if_neg s2, if_neg (fun q => c q.2)]
        have en : (if tx_E b L i - tx_P b L i = 1 then tx_nI (tx_nm key (b (tx_P b L i))) else -1) = -1 := by
          by_cases c1 : tx_E b L i - tx_P b L i = 1
          · have c2 : tx_nm key (b (tx_P b L i)) = 9 := Classical.byContradiction (fun q => c ⟨c1, q⟩)
            rw [if_pos c1, c2]
            rfl
          · rw [if_neg c1]
        rw [en, if_pos (by decide)]
        exact bad eo (by omega) (by omega)
    · have eo : tx_op b L key i = 20000 := by unfold tx_op; rw [if_neg s2, if_neg (fun q => s1 q.1)]
      rw [if_neg (show ¬ M 16 2 = 1 by rw [h.2.2.1]; exact z_neI (b := 1) s1 (by omega) (by omega)), hSg, Option.bind_some]
      have hsgB : tx_sg b L i < 256 := by
        unfold tx_sg
        split
        · next q => exact tx_bP hb (by omega)
        · omega
      -- a parenthesis, or nothing
      have par : ¬ (tx_S b L i = 3 ∧ b (tx_P b L i) = 33 ∧ no < 8) → tx_RsP Mb b L key op no i C (f_X3_readsPiece_J112 R0 R1 M (nI op) (nI no)) := by
        intro hn
        unfold f_X3_readsPiece_J112
        rw [hSg, Option.bind_some]
        by_cases c40 : tx_sg b L i = 40
        · have s3 : tx_S b L i = 3 := by
            refine Classical.byContradiction (fun q => ?_)
            unfold tx_sg at c40
            rw [if_neg q] at c40
            omega
          have hc40 : b (tx_P b L i) = 40 := by unfold tx_sg at c40; rw [if_pos s3] at c40; exact c40
          rw [if_pos (show nI (tx_sg b L i) = 40 by rw [c40]; rfl)]
          by_cases c8 : op < 8
          · rw [if_neg (show ¬ (8 : Int32) ≤ nI op from nI_ge (b := 8) c8 (by omega))]
            obtain ⟨M1, e1, e2⟩ := tx_cAdv hL hb h
            have hPn := tx_Pn hP (by omega)
            rw [e1, Option.bind_some, nI_1]
            -- the model's push
            have push : ∀ (Mb' : Mem) (k : Nat) (W0 : List Nat) (t : Nat → Bool), tx_CnP op no i k C W0 → tx_Go Mb' b L key 1 i C (List.replicate k 10019 ++ W0) t 1 1 (i + 1) C (10020 :: (List.replicate k 10019 ++ W0)) (fun j => if j = op + 1 then false else t j) ∧ tx_Cn 0 (op + 1) no (i + 1) C (10020 :: (List.replicate k 10019 ++ W0)) (fun j => if j = op + 1 then false else t j) := by
              intro Mb' k W0 t hc
              obtain ⟨d1, d2, d3, d4, d5⟩ := hc
              have ep := paR k W0 d2
              refine ⟨tx_G2 hL hb d4 hP (wvR k W0 d1) s3 hc40 (by omega) (fun j hj => ?_) ?_, tx_wv_c (by omega) (wvR k W0 d1), ?_, ?_, ?_, ?_, ?_⟩
              · rw [ep] at hj
                exact if_neg (by omega)
              · rw [ep]; exact if_pos rfl
              · rw [tx_pa, if_pos rfl, ep]; omega
              · rw [tx_no, if_neg (by omega), noR k W0 d3, Nat.zero_add]
              · rw [List.length_cons]; omega
              · intro y V q; exact Or.inl (List.cons.inj q).1.symm
              · intro _; exact if_pos rfl
            rcases hR0 c8 (i + 1) C M1 e2 (by omega) hPn.1 with ⟨i2, D, M2, r1, ⟨r2, r3, r4, r5, r6⟩, r7, r8⟩ | ⟨i2, M2, r1, ⟨r2, r3, r4, r9⟩, r5⟩
            · rw [r1, Option.bind_some, if_neg (show ¬ (1 : Int32) = 0 by decide), tx_cSg hL r2, Option.bind_some]
              have h42 := tx_S4 (b := b) (L := L) i2
              have hP2 := tx_P96 (b := b) (L := L) (i := i2) hL
              have hsg2 : tx_sg b L i2 < 256 := by
                unfold tx_sg
                split
                · next q => exact tx_bP hb (by omega)
                · omega
              by_cases c41 : tx_sg b L i2 = 41
              · have s32 : tx_S b L i2 = 3 := by
                  refine Classical.byContradiction (fun q => ?_)
                  unfold tx_sg at c41
                  rw [if_neg q] at c41
                  omega
                have hc41 : b (tx_P b L i2) = 41 := by unfold tx_sg at c41; rw [if_pos s32] at c41; exact c41
                obtain ⟨M3, a1, a2⟩ := tx_cAdv hL hb r2
                have hPn2 := tx_Pn r4 (show tx_S b L i2 ≠ 0 by omega)
                rw [if_pos (show nI (tx_sg b L i2) = 41 by rw [c41]; rfl), a1, Option.bind_some]
                refine Or.inl ⟨i2 + 1, D, M3, rfl, ⟨a2, by omega, hPn2.1, by omega, r6⟩, ?_⟩
                intro Mb' k W0 t hc
                obtain ⟨p1, p2⟩ := push Mb' k W0 t hc
                obtain ⟨d1, d2, d3, d4, d5⟩ := hc
                obtain ⟨D1, W1, t', q1, q2, q3, q4, q5, q6, q7⟩ := r8 Mb' _ _ p2
                have hlD : D.length = D1.length + W1.length := by rw [q1, List.length_append]
                have hlR : (List.replicate k 10019 ++ W0).length = k + W0.length := by rw [List.length_append, List.length_replicate]
                refine ⟨t', fun j hj => ?_, ?_⟩
                · rw [q4 j (by omega)]
                  exact if_neg (by omega)
                · have g4 := tx_G4 (Mb := Mb') (key := key) (C := C ++ D1) (W1 := W1) (W0 := W0) (k := k) (t := t') hL hb (by rw [List.length_append, List.length_append, List.length_cons, hlR]; omega) r4 q2 d1 (fun x hx => (q3 x hx).1) d5 s32 hc41
                  have := tx_Go_t (tx_Go_t p1 q7) g4
                  rw [show i2 + 1 - i = 1 + (i2 - (i + 1) + 1) by omega]
                  have eD : C ++ D1 ++ W1 ++ List.replicate k 10019 = C ++ D ++ List.replicate k 10019 := by rw [q1, List.append_assoc C D1 W1]
                  rw [eD] at this
                  exact this
              · rw [if_neg (show ¬ nI (tx_sg b L i2) = 41 from z_neI (b := 41) c41 (by omega) (by omega))]
                refine Or.inr ⟨i2, M2, rfl, ⟨r2.1, r2.2.2.2.1, by omega, by omega⟩, ?_⟩
                intro Mb' k W0 t hc
                obtain ⟨p1, p2⟩ := push Mb' k W0 t hc
                obtain ⟨d1, d2, d3, d4, d5⟩ := hc
                obtain ⟨D1, W1, t', q1, q2, q3, q4, q5, q6, q7⟩ := r8 Mb' _ _ p2
                have hlD : D.length = D1.length + W1.length := by rw [q1, List.length_append]
                have hlR : (List.replicate k 10019 ++ W0).length = k + W0.length := by rw [List.length_append, List.length_replicate]
                have hpaW : tx_pa (W1 ++ 10020 :: (List.replicate k 10019 ++ W0)) = op + 1 := by rw [tx_pa_a, tx_pa_z (fun x hx => (q3 x hx).1), tx_pa, if_pos rfl, paR k W0 d2]; omega
                have hlen : (C ++ D1).length + (W1 ++ 10020 :: (List.replicate k 10019 ++ W0)).length ≤ 96 := by rw [List.length_append, List.length_append, List.length_cons, hlR]; omega
                have hf : tx_Fa Mb' b L key 0 i2 (C ++ D1) (W1 ++ 10020 :: (List.replicate k 10019 ++ W0)) t' 1 i2 := by
                  by_cases s0 : tx_S b L i2 = 0
                  · refine tx_F3 hlen (fun y hy => ?_) (fun x hx => (q3 x hx).1) s0
                    rcases List.mem_append.mp hy with e | e
                    · exact q2 y e
                    · exact tx_wv_c (by omega) (wvR k W0 d1) y e
                  · refine tx_F2 hL hb hlen s0 (fun q => c41 q.1) (by omega) ?_
                    by_cases j0 : tx_jc (tx_sg b L i2) = 0
                    · exact Or.inl j0
                    · right
                      have hr := tx_rkB (tx_jc (tx_sg b L i2))
                      have r3' : tx_rk (tx_jc (tx_sg b L i2)) = 3 := by rcases r7 j0 with q | q <;> omega
                      refine ⟨r3', ?_⟩
                      rw [hpaW]
                      exact q6 (by omega) ⟨j0, r3'⟩
                have := tx_Fa_t (tx_Go_t p1 q7) hf
                rw [show i2 - i + 1 = 1 + (i2 - (i + 1) + 1) by omega]
                exact this
            · rw [r1, Option.bind_some, if_pos rfl]
              refine Or.inr ⟨i2, M2, rfl, ⟨r2, r3, by omega, r9⟩, ?_⟩
              intro Mb' k W0 t hc
              obtain ⟨p1, p2⟩ := push Mb' k W0 t hc
              have := tx_Fa_t p1 (r5 Mb' _ _ p2)
              rw [show i2 - i + 1 = i2 - (i + 1) + 1 + 1 by omega]
              exact this
          · rw [if_pos (show (8 : Int32) ≤ nI op from nI_le (a := 8) (by omega) (by omega))]
            exact bad eo hn (fun q => c8 q.2.2)
        · rw [if_neg (show ¬ nI (tx_sg b L i) = 40 from z_neI (b := 40) c40 (by omega) (by omega))]
          refine bad eo hn (fun q => c40 ?_)
          unfold tx_sg
          rw [if_pos q.1]
          exact q.2.1
      by_cases c33 : tx_sg b L i = 33
      · have s3 : tx_S b L i = 3 := by
          refine Classical.byContradiction (fun q => ?_)
          unfold tx_sg at c33
          rw [if_neg q] at c33
          omega
        have hc33 : b (tx_P b L i) = 33 := by unfold tx_sg at c33; rw [if_pos s3] at c33; exact c33
        rw [if_pos (show nI (tx_sg b L i) = 33 by rw [c33]; rfl)]
        by_cases c8 : no < 8
        · rw [if_neg (show ¬ (8 : Int32) ≤ nI no from nI_ge (b := 8) c8 (by omega))]
          obtain ⟨M1, e1, e2⟩ := tx_cAdv hL hb h
          have hPn := tx_Pn hP (by omega)
          rw [e1, Option.bind_some, nI_1]
          have push : ∀ (Mb' : Mem) (k : Nat) (W0 : List Nat) (t : Nat → Bool), tx_CnP op no i k C W0 → tx_Go Mb' b L key 1 i C (List.replicate k 10019 ++ W0) t 1 1 (i + 1) C (List.replicate (k + 1) 10019 ++ W0) t ∧ tx_CnP op (no + 1) (i + 1) (k + 1) C W0 := by
            intro Mb' k W0 t hc
            obtain ⟨d1, d2, d3, d4, d5⟩ := hc
            rw [List.length_append, List.length_replicate] at d4
            refine ⟨?_, d1, d2, by omega, by rw [List.length_append, List.length_replicate]; omega, d5⟩
            rw [List.replicate_succ, List.cons_append]
            exact tx_G1 hL hb (by rw [List.length_append, List.length_replicate]; exact d4) hP (wvR k W0 d1) s3 hc33 (by rw [noR k W0 d3]; exact c8)
          rcases hR1 c8 (i + 1) C M1 e2 (by omega) hPn.1 with ⟨i2, D, M2, r1, ⟨r2, r3, r4, r5, r6⟩, r8⟩ | ⟨i2, M2, r1, ⟨r2, r3, r4, r9⟩, r5⟩
          · have hP2 := tx_P96 (b := b) (L := L) (i := i2) hL
            obtain ⟨M3, a1, a2⟩ := tx_cPut (x := 10019) (by omega) (by rw [List.length_append]; omega) r2
            rw [show z_cenc 10019 = (-33 : Int32) by decide] at a1
            rw [r1, Option.bind_some, if_neg (show ¬ (1 : Int32) = 0 by decide), a1, Option.bind_some]
            refine Or.inl ⟨i2, D ++ [10019], M3, rfl, ⟨by rw [← List.append_assoc]; exact a2, by omega, r4, by rw [List.length_append, List.length_singleton]; omega, tx_PuN hn3 r6⟩, ?_⟩
            intro Mb' k W0 t hc
            obtain ⟨p1, p2⟩ := push Mb' k W0 t hc
            obtain ⟨t', q1, q2⟩ := r8 Mb' (k + 1) W0 t p2
            refine ⟨t', q1, ?_⟩
            have := tx_Go_t p1 q2
            rw [show i2 - i = i2 - (i + 1) + 1 by omega]
            have eD : C ++ D ++ List.replicate (k + 1) 10019 = C ++ (D ++ [10019]) ++ List.replicate k 10019 := by
              rw [List.replicate_succ, ← List.append_assoc C D [10019], List.append_assoc (C ++ D) [10019], List.singleton_append]
            rw [eD] at this
            exact this
          · rw [r1, Option.bind_some, if_pos rfl]
            refine Or.inr ⟨i2, M2, rfl, ⟨r2, r3, by omega, r9⟩, ?_⟩
            intro Mb' k W0 t hc
            obtain ⟨p1, p2⟩ := push Mb' k W0 t hc
            have := tx_Fa_t p1 (r5 Mb' (k + 1) W0 t p2)
            rw [show i2 - i + 1 = i2 - (i + 1) + 1 + 1 by omega]
            exact this
        · rw [if_pos (show (8 : Int32) ≤ nI no from nI_le (a := 8) (by omega) (by omega))]
          exact par (fun q => c8 q.2.2)
      · rw [if_neg (show ¬ nI (tx_sg b L i) = 33 from z_neI (b := 33) c33 (by omega) (by omega))]
        refine par (fun q => c33 ?_)
        unfold tx_sg
        rw [if_pos q.1]
        exact q.2.1
