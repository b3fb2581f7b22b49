/-! level 2: text, what is kept -/
theorem tx_InvF {M M' : Mem} {n : Nat} (h : tx_FR M M') (hI : Inv n M) : Inv n M' := by
  have hI' := hI
  obtain ⟨-, -, -, -, -, -, -, ha, ⟨-, -, h5, h6⟩⟩ := hI'
  exact z_Prs_Inv h.1 hI (z_Ask_fr h.2.2.2.2 h.2.2.2.1 ha) (Nat.le_refl _) (by rw [h.2.1]; exact h5) (by rw [h.2.2.1]; exact h6)
theorem tx_FR_e {A B : Mem} {v : Int32} (h : tx_FR A B) : tx_FR (bw_up A 93 26 v) (bw_up B 93 26 v) := by
  obtain ⟨⟨p1, p2, p3, p4, p5, p6⟩, h2, h3, h4, h5⟩ := h
  refine ⟨⟨fun k hk => ?_, ?_, ?_, ?_, ?_, fun c => ⟨?_, ?_, ?_⟩⟩, ?_, ?_, ?_, ?_⟩
  · have : k ≠ 93 := fun e => by subst e; unfold z_pr at hk; omega
    rw [z_up_k _ _ _ _ this, z_up_k _ _ _ _ this]; exact p1 k hk
  · rw [z_up_k _ _ _ _ (by omega), z_up_k _ _ _ _ (by omega)]; exact p2
  · rw [z_up_i _ _ _ _ (by omega), z_up_i _ _ _ _ (by omega)]; exact p3
  · rw [z_up_s, z_up_s]
  · rw [z_up_i _ _ _ _ (by omega), z_up_i _ _ _ _ (by omega)]; exact p5
  · rw [z_up_k _ _ _ _ (by omega), z_up_k _ _ _ _ (by omega)]; exact (p6 c).1
  · rw [z_up_k _ _ _ _ (by omega), z_up_k _ _ _ _ (by omega)]; exact (p6 c).2.1
  · rw [z_up_k _ _ _ _ (by omega), z_up_k _ _ _ _ (by omega)]; exact (p6 c).2.2
  · rw [z_up_k _ _ _ _ (by omega), z_up_k _ _ _ _ (by omega)]; exact h2
  · rw [z_up_k _ _ _ _ (by omega), z_up_k _ _ _ _ (by omega)]; exact h3
  · rw [z_up_k _ _ _ _ (by omega), z_up_k _ _ _ _ (by omega)]; exact h4
  · rw [z_up_i _ _ _ _ (by omega), z_up_i _ _ _ _ (by omega)]; exact h5
theorem tx_InvE {M : Mem} {n : Nat} (hI : Inv n M) : Inv n (bw_up (bw_up M 16 1 0) 93 26 0) := by
  obtain ⟨⟨s, u, hS⟩, b, c, d, e, f, g, ⟨q, hq, i1, i2⟩, ⟨⟨x, hx, hx2, hx3⟩, h4⟩⟩ := hI
  have fr : ∀ k, k ≠ 16 → k ≠ 93 → bw_up (bw_up M 16 1 0) 93 26 0 k = M k := fun k h1 h2 => by rw [z_up_k _ _ _ _ h2, z_up_k _ _ _ _ h1]
  have f93 : ∀ k, k ≠ 26 → bw_up (bw_up M 16 1 0) 93 26 0 93 k = M 93 k := fun k h1 => by rw [z_up_i _ _ _ _ h1, z_up_k _ _ _ _ (by omega)]
  have hLE : z_LE M (bw_up (bw_up M 16 1 0) 93 26 0) := fun c => ⟨fr _ (by omega) (by omega), fr _ (by omega) (by omega), by rw [fr _ (by omega) (by omega)]⟩
  refine ⟨⟨s, u, z_Stk_fr (fr _ (by omega) (by omega)) (fun k h1 h2 => fr k (by omega) (by omega)) hLE hS⟩, z_Img_fr (by rw [fr 0 (by omega) (by omega)]) (f93 _ (by omega)) (fr _ (by omega) (by omega)) (fun k h1 h2 => fr k (by omega) (by omega)) hLE b, ⟨0, by omega, ?_, ?_, fun i hi => by omega⟩, z_Key_fr (fr _ (by omega) (by omega)) (fr _ (by omega) (by omega)) d, z_Sht_fr (fun k h1 h2 => fr k (by omega) (by omega)) (fr _ (by omega) (by omega)) (fr _ (by omega) (by omega)) (fr _ (by omega) (by omega)) e, z_Slt_fr (fun k h1 h2 => fr k (by omega) (by omega)) (fr _ (by omega) (by omega)) (fr _ (by omega) (by omega)) (fr _ (by omega) (by omega)) (fr _ (by omega) (by omega)) f, z_Wai_fr (by rw [fr 0 (by omega) (by omega)]) (f93 _ (by omega)) (fr _ (by omega) (by omega)) (fr _ (by omega) (by omega)) g, z_Ask_fr (f93 _ (by omega)) (fr _ (by omega) (by omega)) ⟨q, hq, i1, i2⟩, z_Lws_fr (by rw [fr 0 (by omega) (by omega)]) (fr _ (by omega) (by omega)) (fr _ (by omega) (by omega)) (by rw [fr 1 (by omega) (by omega)]) (by rw [fr 11 (by omega) (by omega)]) ⟨⟨x, hx, hx2, hx3⟩, h4⟩⟩
  · rw [z_up_k _ _ _ _ (by omega), z_up_s]; rfl
  · rw [z_up_s]; rfl
theorem tx_InvS {M M' : Mem} {n : Nat} (hI : Inv n M) (ho : z_Oth M M') (hs : ∃ s u, z_Stk M' 25 94 s u) (h32 : ∀ i, i < 14 → z_Lok M (M' 32 i)) : Inv n M' := by
  obtain ⟨-, b, c, d, e, f, g, i, ⟨⟨x, hx, hx2, hx3⟩, h4, h5, h6⟩⟩ := hI
  have hL := z_Oth_LE ho
  have o0 : M' 0 = M 0 := ho 0 (by omega)
  have o93 : M' 93 = M 93 := ho 93 (by omega)
  refine ⟨hs, z_Img_fr (by rw [o0]) (by rw [o93]) (ho _ (by omega)) (fun k h h' => ho k (by omega)) hL b, z_Tap_fr (by rw [ho _ (by omega)]) (by rw [o93]) (ho _ (by omega)) (ho _ (by omega)) c, z_Key_fr (ho _ (by omega)) (ho _ (by omega)) d, z_Sht_fr (fun k h h' => ho k (by omega)) (ho _ (by omega)) (ho _ (by omega)) (ho _ (by omega)) e, z_Slt_fr (fun k h h' => ho k (by omega)) (ho _ (by omega)) (ho _ (by omega)) (ho _ (by omega)) (ho _ (by omega)) f, z_Wai_fr (by rw [o0]) (by rw [o93]) (ho _ (by omega)) (ho _ (by omega)) g, ?_, ?_, ?_, ?_, ?_⟩
  · exact z_Ask_fr (by rw [o93]) (ho _ (by omega)) i
  · exact ⟨x, hx, hx2, by rw [o0]; exact hx3⟩
  · intro i hi
    refine ⟨?_, ?_⟩
    · unfold z_Lok; rw [o0]; exact h32 i hi
    · unfold z_Lok; rw [o0, ho 52 (by omega)]; exact (h4 i hi).2
  · unfold z_Lok; rw [o0, ho 1 (by omega)]; exact h5
  · unfold z_Lok; rw [o0, ho 11 (by omega)]; exact h6
/-- a new law -/
theorem tx_al {M : Mem} {c : Nat} (hc : c ≤ 512) (h : M 0 1000 = nI c) : (∀ k, k ≠ 0 → k < 129 + 3 * c → bw_alloc M k = M k) ∧ (∀ j, j ≠ 1000 → bw_alloc M 0 j = M 0 j) ∧ bw_alloc M 0 1000 = nI (c + 1) ∧ bw_alloc M (129 + 3 * c) 0 = M 14 4 ∧ bw_alloc M (129 + 3 * c) 1 = M 14 3 ∧ bw_alloc M (129 + 3 * c + 1) 1000 = M 14 2 ∧ bw_alloc M (129 + 3 * c + 2) 1000 = bw_max 1 (M 14 3) ∧ ∀ k, k < 1000 → k < (M 14 2).toNatClampNeg → bw_alloc M (129 + 3 * c + 1) k = M 15 k := by
  have hn : bw_nn M = 129 + 3 * c := by unfold bw_nn; rw [h, nI_clamp (by omega)]
  unfold bw_alloc
  rw [hn]
  refine ⟨fun k h0 hk => ?_, fun j hj => ?_, ?_, ?_, ?_, ?_, ?_, fun k hk hk2 => ?_⟩
  · rw [if_neg h0, if_neg (by omega), if_neg (by omega), if_neg (by omega)]
  · rw [if_pos rfl]; unfold upd; rw [if_neg hj]
  · rw [if_pos rfl]; unfold upd; rw [if_pos rfl, h, nI_1]
  · rw [if_neg (by omega), if_pos rfl, if_pos rfl]
  · rw [if_neg (by omega), if_pos rfl, if_neg (by omega), if_pos rfl]
  · rw [if_neg (by omega), if_neg (by omega), if_pos rfl, if_pos rfl]
  · rw [if_neg (by omega), if_neg (by omega), if_neg (by omega), if_pos rfl, if_pos rfl]
  · rw [if_neg (by omega), if_neg (by omega), if_pos rfl, if_neg (by omega), if_pos hk2]
theorem tx_StkA {M M' : Mem} {S R c : Nat} {s : Nat → Nat} {u : Nat → TU} (hS0 : S ≠ 0) (hS : S + 20 ≤ 129) (hR0 : R ≠ 0) (hR : R < 129) (hf : ∀ k, k ≠ 0 → k < 129 + 3 * c → M' k = M k) (hu : ∀ t, t < s 6 → (u t).1 ≤ c) (h : z_Stk M S R s u) : z_Stk M' S R s u := by
  obtain ⟨h1, h2, h3, h4, h5, h6, h7, h8⟩ := h
  have eS : ∀ k, S ≤ k → k < S + 20 → M' k = M k := fun k a1 a2 => hf k (by omega) (by omega)
  have e0 : M' S = M S := eS S (by omega) (by omega)
  have eR : M' R = M R := hf R hR0 (by omega)
  refine ⟨h1, ?_, ?_, ?_, ?_, ?_, ?_, ?_⟩
  · unfold z_MR; rw [eR]; exact h2
  · rw [e0, eR]; exact h3
  · unfold z_CN; rw [e0]; exact h4
  · unfold z_CB; rw [eS (S + 1) (by omega) (by omega), eS (S + 2) (by omega) (by omega), eS (S + 3) (by omega) (by omega), eS (S + 4) (by omega) (by omega)]; exact h5
  · intro i hi
    have : s 5 ≤ 12 := h1.1.2.1
    rw [eS (S + 8 + i) (by omega) (by omega)]
    exact h6 i hi
  · unfold z_CA; rw [eS (S + 6) (by omega) (by omega)]; exact h7
  · intro t ht
    have hc := hu t ht
    obtain ⟨g1, g2, g3, g4, g5, g6⟩ := h8 t ht
    have hb := g2.1
    refine ⟨by rw [eS (S + 7) (by omega) (by omega)]; exact g1, g2, ?_, ?_, ?_, ?_⟩
    · obtain ⟨k1, k2, k3, k4, k5⟩ := g3
      have l0 : M' (z_lcN (u t).1) = M (z_lcN (u t).1) := hf _ (by unfold z_lcN; omega) (by unfold z_lcN; omega)
      have l1 : M' (z_lcN (u t).1 + 1) = M (z_lcN (u t).1 + 1) := hf _ (by unfold z_lcN; omega) (by unfold z_lcN; omega)
      have l2 : M' (z_lcN (u t).1 + 2) = M (z_lcN (u t).1 + 2) := hf _ (by unfold z_lcN; omega) (by unfold z_lcN; omega)
      unfold z_Law
      rw [l0, l1, l2]
      exact ⟨k1, k2, k3, k4, k5⟩
    · rw [eR]; exact g4
    · rw [eR]; exact g5
    · intro k hk; rw [eR]; exact g6 k hk
theorem tx_uB {M : Mem} {S R c t : Nat} {s : Nat → Nat} {u : Nat → TU} (h : z_Stk M S R s u) (hc : c ≤ 512) (h0 : M 0 1000 = nI c) (hL : ∀ i, i < 14 → z_Lok M (M (S + 7) i)) (ht : t < s 6) : (u t).1 ≤ c := by
  obtain ⟨h1, -, -, -, -, -, -, h8⟩ := h
  have h14 : s 6 ≤ 14 := h1.1.2.2.1
  obtain ⟨g1, g2, -⟩ := h8 t ht
  obtain ⟨j, hj, e⟩ := hL t (by omega)
  rw [h0, nI_clamp (by omega)] at hj
  have hb := g2.2.1
  have : (u t).1 = j := (nI_eq (by omega) (by omega)).mp (g1.symm.trans e)
  omega
theorem tx_InvA {M : Mem} {n : Nat} (hn : n < 512) (hI : Inv n M) : Inv (n + 1) (bw_alloc M) := by
  obtain ⟨⟨s, u, hS⟩, ⟨b1, b2⟩, tp, d, e, f, g, ⟨q, hq, i1, i2⟩, ⟨⟨c, hx, hx2, hx3⟩, h4, h5, h6⟩⟩ := hI
  obtain ⟨a1, a2, a3, -⟩ := tx_al hx2 hx3
  have fr : ∀ k, k ≠ 0 → k < 129 → bw_alloc M k = M k := fun k k0 k1 => a1 k k0 (by omega)
  have lok : ∀ x, z_Lok M x → z_Lok (bw_alloc M) x := by
    intro x hx'
    obtain ⟨j, hj, rfl⟩ := hx'
    rw [hx3, nI_clamp (by omega)] at hj
    exact ⟨j, by rw [a3, nI_clamp (by omega)]; omega, rfl⟩
  have lokB : ∀ x, z_Lok M x → z_Lok (bw_alloc M) x := lok
  refine ⟨⟨s, u, tx_StkA (by omega) (by omega) (by omega) (by omega) a1 (fun t ht => tx_uB hS hx2 hx3 (fun i hi => (h4 i hi).1) ht) hS⟩, ⟨?_, ?_⟩, z_Tap_fr (by rw [fr 16 (by omega) (by omega)]) (by rw [fr 93 (by omega) (by omega)]) (fr _ (by omega) (by omega)) (fr _ (by omega) (by omega)) tp, z_Key_fr (fr _ (by omega) (by omega)) (fr _ (by omega) (by omega)) d, z_Sht_fr (fun k k1 k2 => fr k (by omega) (by omega)) (fr _ (by omega) (by omega)) (fr _ (by omega) (by omega)) (fr _ (by omega) (by omega)) e, z_Slt_fr (fun k k1 k2 => fr k (by omega) (by omega)) (fr _ (by omega) (by omega)) (fr _ (by omega) (by omega)) (fr _ (by omega) (by omega)) (fr _ (by omega) (by omega)) f, z_Wai_fr (a2 10 (by omega)) (by rw [fr 93 (by omega) (by omega)]) (fr _ (by omega) (by omega)) (fr _ (by omega) (by omega)) g, z_Ask_fr (by rw [fr 93 (by omega) (by omega)]) (fr _ (by omega) (by omega)) ⟨q, by omega, i1, i2⟩, ⟨c + 1, by omega, by omega, a3⟩, fun i hi => ⟨by rw [fr 32 (by omega) (by omega)]; exact lok _ (h4 i hi).1, by rw [fr 52 (by omega) (by omega)]; exact lok _ (h4 i hi).2⟩, by rw [fr 1 (by omega) (by omega)]; exact lok _ h5, by rw [fr 11 (by omega) (by omega)]; exact lok _ h6⟩
  · rw [a2 2 (by omega), fr 93 (by omega) (by omega)]; exact b1
  · rw [a2 2 (by omega)]
    rcases b2 with b2 | ⟨b2, s', u', hS'⟩
    · exact Or.inl b2
    · exact Or.inr ⟨b2, s', u', tx_StkA (by omega) (by omega) (by omega) (by omega) a1 (fun t ht => tx_uB hS' hx2 hx3 (fun i hi => (h4 i hi).2) ht) hS'⟩
theorem tx_lk {M : Mem} {c : Nat} {x : Int32} (hc : c ≤ 512) (h0 : M 0 1000 = nI c) (h : z_Lok M x) : bw_lk0 M x = true := by
  obtain ⟨j, hj, rfl⟩ := h
  rw [h0, nI_clamp (by omega)] at hj
  unfold bw_lk0 bw_lok
  rw [h0, nI_clamp (by omega), nI_clamp (by omega)]
  by_cases g : j = 0
  · subst g; rfl
  · rw [Bool.or_eq_true]
    right
    rw [Bool.and_eq_true, Bool.and_eq_true]
    exact ⟨⟨decide_eq_true (nI_ne0 (by omega) (by omega)), decide_eq_true (nI_pos' (by omega))⟩, decide_eq_true hj⟩
theorem tx_rok {M : Mem} {n a c2 : Nat} (hI : Inv n M) (h2 : M 14 2 = nI a) (ha : a < 96) (h3 : M 14 3 = nI c2) (hc2 : c2 < 97) : bw_rok M = true := by
  obtain ⟨-, -, -, -, -, -, -, -, ⟨⟨c, hx, hx2, hx3⟩, h4, h5, h6⟩⟩ := hI
  unfold bw_rok bw_lwf
  rw [Bool.and_eq_true, Bool.and_eq_true, Bool.and_eq_true, Bool.and_eq_true, Bool.and_eq_true]
  refine ⟨⟨⟨⟨⟨tx_lk hx2 hx3 h5, tx_lk hx2 hx3 h6⟩, ?_⟩, ?_⟩, ?_⟩, ?_⟩
  · rw [List.all_eq_true]
    intro i hi
    rw [List.mem_range] at hi
    rw [Bool.and_eq_true]
    exact ⟨tx_lk hx2 hx3 (h4 i hi).1, tx_lk hx2 hx3 (h4 i hi).2⟩
  · rw [hx3]; exact z_ib (by omega) (by omega)
  · rw [h2]; exact z_ib ha (by omega)
  · rw [h3]; exact z_ib hc2 (by omega)
theorem tx_ato_l (D : List Nat) : z_ato D ≤ D.length := by
  induction D with
  | nil => simp [z_ato]
  | cons x D ih =>
    rw [z_ato, List.length_cons]
    split <;> omega
/-- the model keeps a text's code -/
theorem tx_cpL {D : List Nat} {t : Nat} (ht : t < 14) (hD : D.length < 96) : ∀ r k fu (M : Mem), k + r = D.length → r < fu → M 93 36 = nI D.length → (∀ j, j < D.length → M 113 j = z_menc (D.getD j 0)) → M 94 6 = nI t → ∃ M', f_X10_text_L119 (nI t) fu (nI k) M = some (nI t, M') ∧ M' 94 6 = nI (t + 1) ∧ (∀ j, k ≤ j → j < D.length → M' 94 (186 + 96 * t + j) = z_menc (D.getD j 0)) ∧ (∀ j, j ≠ 6 → ¬ (186 + 96 * t + k ≤ j ∧ j < 186 + 96 * t + D.length) → M' 94 j = M 94 j) ∧ ∀ x, x ≠ 94 → M' x = M x := by
  intro r
  induction r with
  | zero =>
    intro k fu M hk hf h36 h113 h6
    obtain ⟨f, rfl⟩ : ∃ f, fu = f + 1 := ⟨fu - 1, by omega⟩
    have e6 : (6 : Int32).toNatClampNeg = 6 := by decide
    refine ⟨bw_up M 94 6 (nI (t + 1)), ?_, z_up_s _ _ _ _, fun j h1 h2 => by omega, fun j h1 _ => z_up_i _ _ _ _ h1, fun x hx => z_up_k _ _ _ _ hx⟩
    rw [f_X10_text_L119, h36, if_pos (nI_le (by omega) (by omega)), e6, h6, nI_1, z_ml]
  | succ r ih =>
    intro k fu M hk hf h36 h113 h6
    obtain ⟨f, rfl⟩ : ∃ f, fu = f + 1 := ⟨fu - 1, by omega⟩
    have ei : (186 : Int32) + 96 * nI t + nI k = nI (186 + 96 * t + k) := by rw [l_186, l_96, pk_mul, nI_add, nI_add]
    obtain ⟨M', e1, e2, e3, e4, e5⟩ := ih (k + 1) f (bw_up M 94 (186 + 96 * t + k) (z_menc (D.getD k 0))) (by omega) (by omega) (by rw [z_up_k _ _ _ _ (by omega)]; exact h36) (fun j hj => by rw [z_up_k _ _ _ _ (by omega)]; exact h113 j hj) (by rw [z_up_i _ _ _ _ (by omega)]; exact h6)
    refine ⟨M', ?_, e2, ?_, ?_, fun x hx => by rw [e5 x hx, z_up_k _ _ _ _ hx]⟩
    · rw [f_X10_text_L119, h36, if_neg (nI_ge (by omega) (by omega)), z_ib (by omega) (by omega), if_pos rfl, ei, z_ib (by omega) (by omega), if_pos rfl, nI_clamp (by omega), nI_clamp (by omega), h113 k (by omega), z_ml, nI_1]
      exact e1
    · intro j h1 h2
      by_cases c : j = k
      · subst c
        rw [e4 _ (by omega) (by omega), z_up_s]
      · exact e3 j (by omega) h2
    · intro j h1 h2
      rw [e4 j h1 (by omega), z_up_i _ _ _ _ (by omega)]
