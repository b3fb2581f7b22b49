/-! level 2: what a change of other rows leaves -/
def z_LE (M M' : Mem) : Prop := ∀ c, M' (129 + 3 * c) = M (129 + 3 * c) ∧ M' (130 + 3 * c) = M (130 + 3 * c) ∧ M' (131 + 3 * c) 1000 = M (131 + 3 * c) 1000
theorem z_lcN1 (c : Nat) : z_lcN c + 1 = 130 + 3 * (c - 1) := by unfold z_lcN; omega
theorem z_lcN2 (c : Nat) : z_lcN c + 2 = 131 + 3 * (c - 1) := by unfold z_lcN; omega
theorem z_lcN0 (c : Nat) : z_lcN c = 129 + 3 * (c - 1) := rfl
theorem z_Law_fr {M M' : Mem} {u : TU} (hL : z_LE M M') (h : z_Law M u) : z_Law M' u := by
  obtain ⟨h1, h2, h3, h4, h5⟩ := h
  obtain ⟨g1, g2, g3⟩ := hL (u.1 - 1)
  unfold z_Law
  rw [z_lcN1, z_lcN2, z_lcN0, g1, g2, g3]
  rw [z_lcN1] at h3 h5
  rw [z_lcN2] at h4
  rw [z_lcN0] at h1 h2
  exact ⟨h1, h2, h3, h4, h5⟩
theorem z_Txt_fr {M M' : Mem} {S R t : Nat} {u : TU} (hR : M' R = M R) (hS : M' (S + 7) = M (S + 7)) (hL : z_LE M M') (h : z_Txt M S R t u) : z_Txt M' S R t u := by
  obtain ⟨h1, h2, h3, h4, h5, h6⟩ := h
  refine ⟨by rw [hS]; exact h1, h2, z_Law_fr hL h3, ?_, ?_, ?_⟩
  · rw [hR]; exact h4
  · rw [hR]; exact h5
  · intro k hk; rw [hR]; exact h6 k hk
theorem z_Stk_fr {M M' : Mem} {S R : Nat} {s : Nat → Nat} {u : Nat → TU} (hR : M' R = M R) (hS : ∀ k, S ≤ k → k < S + 20 → M' k = M k) (hL : z_LE M M') (h : z_Stk M S R s u) : z_Stk M' S R s u := by
  obtain ⟨h1, h2, h3, h4, h5, h6, h7, h8⟩ := h
  have e0 : M' S = M S := hS S (by omega) (by omega)
  refine ⟨h1, ?_, ?_, ?_, ?_, ?_, ?_, ?_⟩
  · unfold z_MR; rw [hR]; exact h2
  · rw [e0, hR]; exact h3
  · unfold z_CN; rw [e0]; exact h4
  · unfold z_CB; rw [hS (S + 1) (by omega) (by omega), hS (S + 2) (by omega) (by omega), hS (S + 3) (by omega) (by omega), hS (S + 4) (by omega) (by omega)]; exact h5
  · intro i hi
    have : s 5 ≤ 12 := h1.1.2.1
    rw [hS (S + 8 + i) (by omega) (by omega)]
    exact h6 i hi
  · unfold z_CA; rw [hS (S + 6) (by omega) (by omega)]; exact h7
  · intro t ht
    exact z_Txt_fr hR (hS (S + 7) (by omega) (by omega)) hL (h8 t ht)
theorem z_Img_fr {M M' : Mem} (h0 : M' 0 2 = M 0 2) (h93 : M' 93 3 = M 93 3) (hR : M' 95 = M 95) (hS : ∀ k, 45 ≤ k → k < 65 → M' k = M k) (hL : z_LE M M') (h : z_Img M) : z_Img M' := by
  obtain ⟨h1, h2⟩ := h
  refine ⟨by rw [h0, h93]; exact h1, ?_⟩
  rw [h0]
  rcases h2 with h2 | ⟨h2, s, u, h3⟩
  · exact Or.inl h2
  · exact Or.inr ⟨h2, s, u, z_Stk_fr hR hS hL h3⟩
theorem z_Tap_fr {M M' : Mem} (h1 : M' 16 1 = M 16 1) (h2 : M' 93 26 = M 93 26) (h3 : M' 17 = M 17) (h4 : M' 110 = M 110) (h : z_Tap M) : z_Tap M' := by
  unfold z_Tap; rw [h1, h2, h3, h4]; exact h
theorem z_Key_fr {M M' : Mem} (h1 : M' 111 = M 111) (h2 : M' 112 = M 112) (h : z_Key M) : z_Key M' := by
  unfold z_Key; rw [h1, h2]; exact h
theorem z_Sht1_fr {M M' : Mem} {k : Nat} (h1 : M' (65 + 2 * k) = M (65 + 2 * k)) (h2 : M' (66 + 2 * k) = M (66 + 2 * k)) (h3 : M' 120 k = M 120 k) (h4 : M' 121 k = M 121 k) (h5 : ∀ i, i < 24 → M' 122 (24 * k + i) = M 122 (24 * k + i)) (h : z_Sht1 M k) : z_Sht1 M' k := by
  unfold z_Sht1
  rw [h1, h2, h3, h4]
  exact ⟨h.1, h.2.1, h.2.2.1, fun i hi => by rw [h5 i hi]; exact h.2.2.2 i hi⟩
theorem z_Sht_fr {M M' : Mem} (h1 : ∀ k, 65 ≤ k → k < 73 → M' k = M k) (h2 : M' 120 = M 120) (h3 : M' 121 = M 121) (h4 : M' 122 = M 122) (h : z_Sht M) : z_Sht M' := by
  intro k hk
  exact z_Sht1_fr (h1 _ (by omega) (by omega)) (h1 _ (by omega) (by omega)) (by rw [h2]) (by rw [h3]) (fun i _ => by rw [h4]) (h k hk)
theorem z_worth_fr {M M' : Mem} {b : Nat} (h : M' b = M b) : f_X0_worth M' b = f_X0_worth M b := by
  unfold f_X0_worth; rw [h]
theorem z_Slt1_fr {M M' : Mem} {k : Nat} (h1 : M' (73 + 4 * k) = M (73 + 4 * k)) (h2 : M' (74 + 4 * k) = M (74 + 4 * k)) (h3 : M' (75 + 4 * k) = M (75 + 4 * k)) (h4 : M' (76 + 4 * k) = M (76 + 4 * k)) (h5 : M' 123 k = M 123 k) (h6 : M' 124 k = M 124 k) (h7 : M' 125 k = M 125 k) (h8 : ∀ i, i < 24 → M' 126 (24 * k + i) = M 126 (24 * k + i)) (h : z_Slt1 M k) : z_Slt1 M' k := by
  obtain ⟨g1, th, g2, g3, g4, g5, g6⟩ := h
  unfold z_Slt1
  rw [h1, h2, h3, h4, h5, h6, h7, z_worth_fr h2]
  exact ⟨g1, th, g2, g3, g4, fun e => ⟨(g5 e).1, fun i hi => by rw [h8 i hi]; exact (g5 e).2 i hi⟩, g6⟩
theorem z_Slt_fr {M M' : Mem} (h1 : ∀ k, 73 ≤ k → k < 93 → M' k = M k) (h2 : M' 123 = M 123) (h3 : M' 124 = M 124) (h4 : M' 125 = M 125) (h5 : M' 126 = M 126) (h : z_Slt M) : z_Slt M' := by
  intro k hk
  exact z_Slt1_fr (h1 _ (by omega) (by omega)) (h1 _ (by omega) (by omega)) (h1 _ (by omega) (by omega)) (h1 _ (by omega) (by omega)) (by rw [h2]) (by rw [h3]) (by rw [h4]) (fun i _ => by rw [h5]) (h k hk)
theorem z_Wai_fr {M M' : Mem} (h1 : M' 0 10 = M 0 10) (h2 : M' 93 54 = M 93 54) (h3 : M' 20 = M 20) (h4 : M' 128 = M 128) (h : z_Wai M) : z_Wai M' := by
  unfold z_Wai; rw [h1, h2, h3, h4]; exact h
theorem z_Ask_fr {M M' : Mem} {n : Nat} (h1 : M' 93 13 = M 93 13) (h2 : M' 102 = M 102) (h : z_Ask n M) : z_Ask n M' := by
  unfold z_Ask; rw [h1, h2]; exact h
theorem z_Lws_fr {M M' : Mem} {n : Nat} (h1 : M' 0 1000 = M 0 1000) (h2 : M' 32 = M 32) (h3 : M' 52 = M 52) (h4 : M' 1 7 = M 1 7) (h5 : M' 11 3 = M 11 3) (h : z_Lws n M) : z_Lws n M' := by
  unfold z_Lws z_Lok; rw [h1, h2, h3, h4, h5]; exact h
/-- rows that outlast a call -/
def z_pr (k : Nat) : Prop := k = 0 ∨ k = 17 ∨ k = 20 ∨ (25 ≤ k ∧ k ≤ 92) ∨ k = 94 ∨ k = 95 ∨ k = 110 ∨ k = 111 ∨ k = 112 ∨ (120 ≤ k ∧ k ≤ 126) ∨ k = 128
def z_Prs (M M' : Mem) : Prop := (∀ k, z_pr k → M' k = M k) ∧ M' 16 1 = M 16 1 ∧ M' 93 3 = M 93 3 ∧ M' 93 26 = M 93 26 ∧ M' 93 54 = M 93 54 ∧ z_LE M M'
def z_scr (k i : Nat) : Prop := ¬ z_pr k ∧ ¬ (k = 16 ∧ i = 1) ∧ ¬ (k = 93 ∧ (i = 3 ∨ i = 26 ∨ i = 54)) ∧ (k < 129 ∨ (k % 3 = 2 ∧ i ≠ 1000))
theorem z_Prs_r (M : Mem) : z_Prs M M := ⟨fun _ _ => rfl, rfl, rfl, rfl, rfl, fun _ => ⟨rfl, rfl, rfl⟩⟩
theorem z_Prs_t {M1 M2 M3 : Mem} (h : z_Prs M1 M2) (g : z_Prs M2 M3) : z_Prs M1 M3 := by
  obtain ⟨a1, a2, a3, a4, a5, a6⟩ := h
  obtain ⟨b1, b2, b3, b4, b5, b6⟩ := g
  exact ⟨fun k hk => (b1 k hk).trans (a1 k hk), b2.trans a2, b3.trans a3, b4.trans a4, b5.trans a5, fun c => ⟨(b6 c).1.trans (a6 c).1, (b6 c).2.1.trans (a6 c).2.1, (b6 c).2.2.trans (a6 c).2.2⟩⟩
theorem z_Prs_row {M M' : Mem} (k : Nat) (h : ∀ b, b ≠ k → M' b = M b) (g : ∀ i, M' k i ≠ M k i → z_scr k i) : z_Prs M M' := by
  have key : ∀ b j, ¬ z_scr b j → M' b j = M b j := by
    intro b j hb
    by_cases e : b = k
    · subst e
      exact Classical.byContradiction (fun hn => hb (g j hn))
    · rw [h b e]
  refine ⟨fun b hb => funext (fun j => key b j (fun hs => hs.1 hb)), key _ _ ?_, key _ _ ?_, key _ _ ?_, key _ _ ?_, fun c => ⟨funext (fun j => key _ _ ?_), funext (fun j => key _ _ ?_), key _ _ ?_⟩⟩ <;> (unfold z_scr z_pr; omega)
theorem z_Prs_up {M : Mem} {k i : Nat} {x : Int32} (h : z_scr k i) : z_Prs M (bw_up M k i x) := by
  refine z_Prs_row k (fun b hb => z_up_k _ _ _ _ hb) (fun j hj => ?_)
  by_cases e : j = i
  · subst e; exact h
  · exact absurd (z_up_i _ _ _ _ e) hj
theorem z_Prs_Inv {M M' : Mem} {n m : Nat} (hp : z_Prs M M') (hI : Inv n M) (ha : z_Ask m M') (hn : n ≤ m) (h1 : z_Lok M (M' 1 7)) (h2 : z_Lok M (M' 11 3)) : Inv m M' := by
  obtain ⟨p1, p2, p3, p4, p5, p6⟩ := hp
  obtain ⟨⟨s, u, a⟩, b, c, d, e, f, g, -, ⟨⟨x, hx, hx2, hx3⟩, h4, h5⟩⟩ := hI
  have pr : ∀ k, z_pr k → M' k = M k := p1
  have p0 : M' 0 = M 0 := pr 0 (Or.inl rfl)
  have q : ∀ k, 25 ≤ k → k ≤ 92 → M' k = M k := fun k h h' => pr k (by unfold z_pr; omega)
  refine ⟨⟨s, u, z_Stk_fr (pr 94 (by unfold z_pr; omega)) (fun k h h' => q k (by omega) (by omega)) p6 a⟩, z_Img_fr (by rw [p0]) p3 (pr 95 (by unfold z_pr; omega)) (fun k h h' => q k (by omega) (by omega)) p6 b, z_Tap_fr p2 p4 (pr 17 (by unfold z_pr; omega)) (pr 110 (by unfold z_pr; omega)) c, z_Key_fr (pr _ (by unfold z_pr; omega)) (pr _ (by unfold z_pr; omega)) d, z_Sht_fr (fun k h h' => q k (by omega) (by omega)) (pr _ (by unfold z_pr; omega)) (pr _ (by unfold z_pr; omega)) (pr _ (by unfold z_pr; omega)) e, z_Slt_fr (fun k h h' => q k (by omega) (by omega)) (pr _ (by unfold z_pr; omega)) (pr _ (by unfold z_pr; omega)) (pr _ (by unfold z_pr; omega)) (pr _ (by unfold z_pr; omega)) f, z_Wai_fr (by rw [p0]) p5 (pr _ (by unfold z_pr; omega)) (pr _ (by unfold z_pr; omega)) g, ha, ⟨x, by omega, hx2, by rw [p0]; exact hx3⟩, ?_, ?_, ?_⟩
  · unfold z_Lok; rw [p0, q 32 (by omega) (by omega), q 52 (by omega) (by omega)]; exact h4
  · unfold z_Lok; rw [p0]; exact h1
  · unfold z_Lok; rw [p0]; exact h2
