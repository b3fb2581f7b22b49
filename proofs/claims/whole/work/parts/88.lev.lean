/-! level 2: text, class and model together: the levels -/
def tx_GL (b : Nat → Nat) (L key l op no i : Nat) (C : List Nat) (i' : Nat) (D : List Nat) (v : Nat) : Prop := ∀ (Mb : Mem) (W : List Nat) (t : Nat → Bool), tx_Cn l op no i C W t → ∃ (D1 W1 : List Nat) (t' : Nat → Bool), D = D1 ++ W1 ∧ tx_wv W1 ∧ (∀ x, x ∈ W1 → x ≠ 10020 ∧ x ≠ 10019 ∧ l + 1 ≤ tx_rk x) ∧ (∀ j, j < op → t' j = t j) ∧ (2 < l → t' op = t op) ∧ (l = 2 → (t' op = true ↔ v ≠ 0)) ∧ (l < 2 → tx_te b L i' → t' op = true) ∧ tx_Go Mb b L key 1 i C W t (i' - i) 0 i' (C ++ D1) (W1 ++ W) t'
theorem tx_GLG {b : Nat → Nat} {L key l op no i i' v : Nat} {C D : List Nat} (h : tx_GL b L key l op no i C i' D v) (hv : l = 2 → tx_te b L i' → v ≠ 0) : tx_Gd b L key l op no i C i' D := by
  intro Mb W t hc
  obtain ⟨D1, W1, t', q1, q2, q3, q4, q5, q6, q7, q8⟩ := h Mb W t hc
  refine ⟨D1, W1, t', q1, q2, q3, q4, q5, fun hl ht => ?_, q8⟩
  by_cases c : l = 2
  · exact (q6 c).mpr (hv c ht)
  · exact q7 (by omega) ht
/-- the loop of a level -/
theorem tx_lp {b : Nat → Nat} {L key l op no i : Nat} {Mb : Mem} {C : List Nat} {R0 : Mem → Int32 → Int32 → Int32 → Option (Int32 × Mem)} {R1 : Mem → Int32 → Int32 → Option (Int32 × Mem)} (hL : L ≤ 96) (hb : ∀ i, i < L → b i < 256) (hl4 : l ≤ 4) (hop : op ≤ 8) (hlC : C.length ≤ i)
    (hR0 : ∀ (i : Nat) (C : List Nat) (M : Mem), tx_CS Mb b L key i C M → C.length ≤ i → i ≤ tx_P b L i → tx_Rs Mb b L key (l + 1) op no i C (R0 M (nI (l + 1)) (nI op) (nI no))) :
    ∀ (r v i1 fu : Nat) (D : List Nat) (M : Mem), i1 + r = 97 → r < fu → v + i + 1 ≤ i1 → tx_CS Mb b L key i1 (C ++ D) M → i1 ≤ tx_P b L i1 → D.length ≤ i1 - i → tx_Pu (z_nms key) D → tx_Nj b L (l + 1) i1 → (l = 2 → v ≤ 1) → tx_GL b L key l op no i C i1 D v → tx_Rs Mb b L key l op no i C (f_X3_reads_L42 R0 R1 (nI l) (nI op) (nI no) (if nI l = 2 then 1 else 96) fu (nI v) M) := by
  intro r
  induction r using Nat.strongRecOn with
  | _ r ih =>
    intro v i1 fu D M hr hf hv hM hP hD hpu hnj hv1 hgl
    obtain ⟨f, rfl⟩ : ∃ f, fu = f + 1 := ⟨fu - 1, by omega⟩
    have hP96 := tx_P96 (b := b) (L := L) (i := i1) hL
    have hn3 := tx_nms3 key
    have hsgB : tx_sg b L i1 < 256 := by
      unfold tx_sg
      split
      · next q => exact tx_bP hb (by omega)
      · omega
    rw [f_X3_reads_L42]
    have hlim : (if nI l = (2 : Int32) then (1 : Int32) else 96) = nI (if l = 2 then 1 else 96) := by
      by_cases c : l = 2
      · subst c; rfl
      · rw [if_neg c, if_neg (show ¬ nI l = 2 from z_neI (b := 2) c (by omega) (by omega))]; rfl
    by_cases ex : l = 2 ∧ v = 1
    · rw [if_pos (show (if nI l = (2 : Int32) then (1 : Int32) else 96) ≤ nI v by rw [hlim, if_pos ex.1]; exact nI_le (by omega) (by omega))]
      refine Or.inl ⟨i1, D, M, rfl, ⟨hM, by omega, hP, hD, hpu⟩, fun q => ?_, tx_GLG hgl (fun _ _ => by omega)⟩
      rcases hnj q with e | e
      · by_cases c : tx_rk (tx_jc (tx_sg b L i1)) = 3
        · exact Or.inr c
        · left; omega
      · exact Or.inr e
    · rw [if_neg (show ¬ (if nI l = (2 : Int32) then (1 : Int32) else 96) ≤ nI v by
        rw [hlim]
        by_cases c : l = 2
        · rw [if_pos c]; exact nI_ge (by omega) (by omega)
        · rw [if_neg c]; exact nI_ge (by omega) (by omega)), tx_cSg hL hM, Option.bind_some, tx_jnI hl4 hsgB]
      by_cases jn : tx_jc (tx_sg b L i1) ≠ 0 ∧ tx_rk (tx_jc (tx_sg b L i1)) = l + 1
      · have s3 : tx_S b L i1 = 3 := by
          refine Classical.byContradiction (fun q => jn.1 ?_)
          unfold tx_sg
          rw [if_neg q]
          decide
        have hjB : 10010 ≤ tx_jc (tx_sg b L i1) ∧ tx_jc (tx_sg b L i1) ≤ 10018 := by rcases tx_jcB (tx_sg b L i1) with q | q <;> omega
        obtain ⟨M1, e1, e2⟩ := tx_cAdv hL hb hM
        have hPn := tx_Pn hP (show tx_S b L i1 ≠ 0 by omega)
        rw [if_pos jn, if_neg (show ¬ (1 : Int32) = 0 by decide), Option.bind_some, e1, Option.bind_some, nI_1]
        -- the model's way to the next operand
        have way : ∀ (Mb' : Mem) (W : List Nat) (t : Nat → Bool), tx_Cn l op no i C W t → ∃ t2 : Nat → Bool, (∀ j, j < op → t2 j = t j) ∧ (2 < l → t2 op = t op) ∧ (l = 2 → t2 op = true) ∧ tx_Cn (l + 1) op no (i1 + 1) (C ++ D) (tx_jc (tx_sg b L i1) :: W) t2 ∧ tx_Go Mb' b L key 1 i C W t (i1 + 1 - i) 1 (i1 + 1) (C ++ D) (tx_jc (tx_sg b L i1) :: W) t2 := by
          intro Mb' W t hc
          obtain ⟨D1, W1, t', q1, q2, q3, q4, q5, q6, q7, q8⟩ := hgl Mb' W t hc
          obtain ⟨d1, d2, d3, d4, d5, d6⟩ := hc
          have hlD : D.length = D1.length + W1.length := by rw [q1, List.length_append]
          have htrue : (if op = op then (decide (l + 1 = 3) || (decide (3 < l + 1) && t' op)) else t' op) = true ↔ (l + 1 = 3 ∨ (3 < l + 1 ∧ t' op = true)) := by
            rw [if_pos rfl, Bool.or_eq_true, Bool.and_eq_true, decide_eq_true_eq, decide_eq_true_eq]
          have g5 := tx_G5 (Mb := Mb') (key := key) (C := C ++ D1) (W1 := W1) (W0 := W) (t := t') (t' := fun j => if j = op then (decide (l + 1 = 3) || (decide (3 < l + 1) && t' op)) else t' j) hL hb (by rw [List.length_append, List.length_append]; omega) hP q2 d1 jn.1 (fun x hx => by rw [jn.2]; exact q3 x hx) (fun y V q => by rw [jn.2]; exact d5 y V q) (by omega) (fun q => by
            rw [d2]
            refine Bool.eq_false_iff.mpr (fun e => ?_)
            have := (q6 (by omega)).mp e
            omega) (fun j hj => by
            rw [d2] at hj
            exact if_neg (by omega)) (by rw [jn.2, d2]; exact htrue)
          have hgo := tx_Go_t q8 g5
          rw [show 1 + (i1 - i) = i1 + 1 - i by omega, List.append_assoc C D1 W1, ← q1] at hgo
          refine ⟨fun j => if j = op then (decide (l + 1 = 3) || (decide (3 < l + 1) && t' op)) else t' j, fun j hj => ?_, fun hl2 => ?_, fun hl2 => ?_, ⟨tx_wv_c (by omega) d1, ?_, ?_, ?_, ?_, ?_⟩, hgo⟩
          · show (if j = op then _ else t' j) = t j
            rw [if_neg (by omega)]; exact q4 j hj
          · show (if op = op then (decide (l + 1 = 3) || (decide (3 < l + 1) && t' op)) else t' op) = t op
            rw [if_pos rfl, q5 hl2, decide_eq_false (show ¬ l + 1 = 3 by omega), decide_eq_true (show 3 < l + 1 by omega), Bool.false_or, Bool.true_and]
          · exact htrue.mpr (Or.inl (by omega))
          · rw [tx_pa, if_neg (by omega), d2, Nat.zero_add]
          · rw [tx_no, if_neg (by omega), d3, Nat.zero_add]
          · rw [List.length_append, List.length_cons]; omega
          · intro y V q
            right
            rw [← (List.cons.inj q).1, jn.2]
            omega
          · intro hl1
            refine Bool.eq_false_iff.mpr (fun e => ?_)
            have := htrue.mp e
            omega
        rcases hR0 (i1 + 1) (C ++ D) M1 e2 (by rw [List.length_append]; omega) hPn.1 with ⟨i2, D2, M2, r1, ⟨r2, r3, r4, r5, r6⟩, r7, r8⟩ | ⟨i2, M2, r1, ⟨r2, r3, r4, r9⟩, r5⟩
        · have hP2 := tx_P96 (b := b) (L := L) (i := i2) hL
          obtain ⟨M3, a1, a2⟩ := tx_cPut (x := tx_jc (tx_sg b L i1)) hjB.1 (by rw [List.length_append, List.length_append]; omega) r2
          rw [tx_cenJ _ jn.1] at a1
          rw [r1, Option.bind_some, if_neg (show ¬ (1 : Int32) = 0 by decide), a1, Option.bind_some, nI_1]
          have eC : C ++ D ++ D2 ++ [tx_jc (tx_sg b L i1)] = C ++ (D ++ (D2 ++ [tx_jc (tx_sg b L i1)])) := by rw [List.append_assoc, List.append_assoc]
          rw [eC] at a2
          refine ih (97 - i2) (by omega) (v + 1) i2 f (D ++ (D2 ++ [tx_jc (tx_sg b L i1)])) M3 (by omega) (by omega) (by omega) a2 r4 (by rw [List.length_append, List.length_append, List.length_singleton]; omega) (tx_PuJ hn3 hjB hpu r6) r7 (fun q => by have := hv1 q; omega) ?_
          intro Mb' W t hc
          obtain ⟨t2, w1, w2, w3, w4, w5⟩ := way Mb' W t hc
          obtain ⟨D1, W1, t3, q1, q2, q3, q4, q5, q6, q8⟩ := r8 Mb' _ _ w4
          refine ⟨D ++ D1, W1 ++ [tx_jc (tx_sg b L i1)], t3, ?_, ?_, ?_, fun j hj => (q4 j hj).trans (w1 j hj), fun hl2 => (q5 (by omega)).trans (w2 hl2), fun hl2 => ⟨fun _ => by omega, fun _ => (q5 (by omega)).trans (w3 hl2)⟩, fun hl2 ht => q6 (by omega) ht, ?_⟩
          · rw [q1, List.append_assoc, List.append_assoc]
          · intro y hy
            rcases List.mem_append.mp hy with e | e
            · exact q2 y e
            · rw [List.mem_singleton.mp e]; omega
          · intro y hy
            rcases List.mem_append.mp hy with e | e
            · have := q3 y e
              exact ⟨this.1, this.2.1, by omega⟩
            · rw [List.mem_singleton.mp e]
              exact ⟨by omega, by omega, by omega⟩
          · have hgo := tx_Go_t w5 q8
            rw [show i2 - (i1 + 1) + (i1 + 1 - i) = i2 - i by omega, List.append_assoc C D D1] at hgo
            rw [List.append_assoc W1, List.singleton_append]
            exact hgo
        · rw [r1, Option.bind_some, if_pos rfl]
          refine Or.inr ⟨i2, M2, rfl, ⟨r2, r3, by omega, r9⟩, ?_⟩
          intro Mb' W t hc
          obtain ⟨t2, w1, w2, w3, w4, w5⟩ := way Mb' W t hc
          have hfa := tx_Fa_t w5 (r5 Mb' _ _ w4)
          rw [show i2 - (i1 + 1) + 1 + (i1 + 1 - i) = i2 - i + 1 by omega] at hfa
          exact hfa
      · rw [if_neg jn, if_pos rfl]
        refine Or.inl ⟨i1, D, M, rfl, ⟨hM, by omega, hP, hD, hpu⟩, fun q => ?_, tx_GLG hgl (fun c ht => absurd ⟨ht.1, by rw [ht.2, c]⟩ jn)⟩
        rcases hnj q with e | e
        · by_cases c : tx_rk (tx_jc (tx_sg b L i1)) = l + 1
          · exact absurd ⟨q, c⟩ jn
          · left; omega
        · exact Or.inr e
theorem tx_lv {b : Nat → Nat} {L key l op no i : Nat} {Mb M : Mem} {C : List Nat} {R0 : Mem → Int32 → Int32 → Int32 → Option (Int32 × Mem)} {R1 : Mem → Int32 → Int32 → Option (Int32 × Mem)} (hL : L ≤ 96) (hb : ∀ i, i < L → b i < 256) (hl4 : l ≤ 4) (hop : op ≤ 8) (h : tx_CS Mb b L key i C M) (hlC : C.length ≤ i) (hP : i ≤ tx_P b L i)
    (hR0 : ∀ (i : Nat) (C : List Nat) (M : Mem), tx_CS Mb b L key i C M → C.length ≤ i → i ≤ tx_P b L i → tx_Rs Mb b L key (l + 1) op no i C (R0 M (nI (l + 1)) (nI op) (nI no))) : tx_Rs Mb b L key l op no i C (f_X3_reads R0 R1 M (nI l) (nI op) (nI no)) := by
  have hfu : bw_fu = 2000 := rfl
  unfold f_X3_reads
  rw [if_pos (show nI l < (5 : Int32) from nI_lt (b := 5) (by omega) (by omega)), nI_1]
  rcases hR0 i C M h hlC hP with ⟨i2, D, M2, r1, ⟨r2, r3, r4, r5, r6⟩, r7, r8⟩ | ⟨i2, M2, r1, ⟨r2, r3, r4, r9⟩, r5⟩
  · have hP2 := tx_P96 (b := b) (L := L) (i := i2) hL
    rw [r1, Option.bind_some, if_neg (show ¬ (1 : Int32) = 0 by decide)]
    unfold f_X3_reads_J37
    refine tx_lp hL hb hl4 hop hlC hR0 (97 - i2) 0 i2 bw_fu D M2 (by omega) (by omega) (by omega) r2 r4 r5 r6 r7 (fun _ => by omega) ?_
    intro Mb' W t hc
    obtain ⟨d1, d2, d3, d4, d5, d6⟩ := hc
    obtain ⟨D1, W1, t', q1, q2, q3, q4, q5, q6, q7⟩ := r8 Mb' W t ⟨d1, d2, d3, d4, fun y V q => by rcases d5 y V q with e | e; exact Or.inl e; exact Or.inr (by omega), fun q => d6 (by omega)⟩
    refine ⟨D1, W1, t', q1, q2, fun x hx => ?_, q4, fun q => q5 (by omega), fun q => ⟨fun e => ?_, fun e => absurd rfl e⟩, fun q ht => q6 (by omega) ht, q7⟩
    · have := q3 x hx
      exact ⟨this.1, this.2.1, by omega⟩
    · rw [q5 (by omega), d6 (by omega)] at e
      exact absurd e (by decide)
  · rw [r1, Option.bind_some, if_pos rfl]
    refine Or.inr ⟨i2, M2, rfl, ⟨r2, r3, r4, r9⟩, ?_⟩
    intro Mb' W t hc
    obtain ⟨d1, d2, d3, d4, d5, d6⟩ := hc
    exact r5 Mb' W t ⟨d1, d2, d3, d4, fun y V q => by rcases d5 y V q with e | e; exact Or.inl e; exact Or.inr (by omega), fun q => d6 (by omega)⟩
theorem tx_l5v {b : Nat → Nat} {L key op no i : Nat} {Mb M : Mem} {C : List Nat} {R0 : Mem → Int32 → Int32 → Int32 → Option (Int32 × Mem)} {R1 : Mem → Int32 → Int32 → Option (Int32 × Mem)} (hR1 : tx_RsP Mb b L key op no i C (R1 M (nI op) (nI no))) : tx_Rs Mb b L key 5 op no i C (f_X3_reads R0 R1 M (nI 5) (nI op) (nI no)) := by
  unfold f_X3_reads
  rw [if_neg (show ¬ nI 5 < (5 : Int32) by decide)]
  rcases hR1 with ⟨i2, D, M2, r1, r2, r8⟩ | ⟨i2, M2, r1, r2, r5⟩
  · rw [r1, Option.bind_some]
    refine Or.inl ⟨i2, D, M2, rfl, r2, fun q => ?_, ?_⟩
    · left
      have hjB : 10010 ≤ tx_jc (tx_sg b L i2) ∧ tx_jc (tx_sg b L i2) ≤ 10018 := by rcases tx_jcB (tx_sg b L i2) with q | q <;> omega
      unfold tx_rk
      repeat' split
      all_goals omega
    · intro Mb' W t hc
      obtain ⟨d1, d2, d3, d4, d5, d6⟩ := hc
      obtain ⟨t', q1, q2⟩ := r8 Mb' 0 W t ⟨d1, d2, by omega, d4, d5⟩
      rw [List.replicate_zero, List.nil_append, List.append_nil] at q2
      exact ⟨D, [], t', (List.append_nil D).symm, fun x hx => absurd hx List.not_mem_nil, fun x hx => absurd hx List.not_mem_nil, fun j hj => q1 j (by omega), fun _ => q1 op (Nat.le_refl _), fun q => by omega, q2⟩
  · rw [r1, Option.bind_some]
    refine Or.inr ⟨i2, M2, rfl, r2, ?_⟩
    intro Mb' W t hc
    obtain ⟨d1, d2, d3, d4, d5, d6⟩ := hc
    have q2 := r5 Mb' 0 W t ⟨d1, d2, by omega, d4, d5⟩
    rw [List.replicate_zero, List.nil_append] at q2
    exact q2
theorem tx_rd {b : Nat → Nat} {L key : Nat} {Mb : Mem} (hL : L ≤ 96) (hb : ∀ i, i < L → b i < 256) (hk : key ≤ 2) : ∀ n, (∀ (l op no i : Nat) (C : List Nat) (M : Mem), l ≤ 5 → op ≤ 8 → no ≤ 8 → (7 - l) + (8 - op) * 7 + (8 - no) ≤ n → tx_CS Mb b L key i C M → C.length ≤ i → i ≤ tx_P b L i → tx_Rs Mb b L key l op no i C ((f_X3_rd n).1 M (nI l) (nI op) (nI no))) ∧ (∀ (op no i : Nat) (C : List Nat) (M : Mem), op ≤ 8 → no ≤ 8 → 1 + (8 - op) * 7 + (8 - no) ≤ n → tx_CS Mb b L key i C M → C.length ≤ i → i ≤ tx_P b L i → tx_RsP Mb b L key op no i C ((f_X3_rd n).2 M (nI op) (nI no))) := by
  intro n
  induction n with
  | zero => exact ⟨fun l op no i C M h1 h2 h3 h4 => by omega, fun op no i C M h2 h3 h4 => by omega⟩
  | succ n ih =>
    obtain ⟨ih1, ih2⟩ := ih
    constructor
    · intro l op no i C M h1 h2 h3 h4 hM hl hP
      rw [f_X3_rd]
      by_cases c : l = 5
      · subst c
        exact tx_l5v (R0 := (f_X3_rd n).1) (ih2 op no i C M h2 h3 (by omega) hM hl hP)
      · exact tx_lv hL hb (by omega) h2 hM hl hP (fun i C M a1 a2 a3 => ih1 (l + 1) op no i C M (by omega) h2 h3 (by omega) a1 a2 a3)
    · intro op no i C M h2 h3 h4 hM hl hP
      rw [f_X3_rd]
      exact tx_pc hL hb hk h2 h3 hM hl hP (fun h8 i C M a1 a2 a3 => ih1 0 (op + 1) no i C M (by omega) (by omega) h3 (by omega) a1 a2 a3) (fun h8 i C M a1 a2 a3 => ih2 op (no + 1) i C M h2 (by omega) (by omega) a1 a2 a3)
