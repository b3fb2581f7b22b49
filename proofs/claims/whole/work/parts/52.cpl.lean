/-! level 2: the class's plan -/
def z_LOK (M : Mem) (u : TU) : Prop := z_Law M u ∧ z_Tok u ∧ bw_lok M (nI u.1) = true
theorem z_givL {M : Mem} {u : TU} (a b c : Int32) (hu : z_LOK M u) : ∃ M', f_X1_gives M (nI u.1) a b c = some (z_val a b c u.2.2, M') ∧ M' (z_lcN u.1 + 2) 1000 = M (z_lcN u.1 + 2) 1000 ∧ ∀ b, b ≠ z_lcN u.1 + 2 → M' b = M b := by
  have hfu : 100 < bw_fu := by decide
  obtain ⟨⟨-, -, a3, a4, a5⟩, ⟨k1, k2, k3, k4, k5⟩, q3⟩ := hu
  have := z_cGiv (u := u) (a := a) (b := b) (c := c) (A := z_lcN u.1) (nm := z_nms u.2.1) rfl (z_lc (by omega)) (z_nms3 _) k4 u.2.2 0 bw_fu [] M q3 a3 a4 a5 (by omega) (fun i _ => by rw [Nat.zero_add]) k5 (by simp) (fun i hi => by simp at hi) (by omega)
  rw [show nI ([] : List Int32).length - 1 = -1 by decide, show nI 0 = 0 from rfl] at this
  exact this
/-- only the class's own working rows may change -/
def z_Cf (M M' : Mem) : Prop := (∀ b, b = 0 ∨ (14 ≤ b ∧ b ≤ 20) ∨ (25 ≤ b ∧ b ≤ 128) → M' b = M b) ∧ z_LE M M'
theorem z_Cf_r (M : Mem) : z_Cf M M := ⟨fun _ _ => rfl, fun _ => ⟨rfl, rfl, rfl⟩⟩
theorem z_Cf_t {M1 M2 M3 : Mem} (h : z_Cf M1 M2) (g : z_Cf M2 M3) : z_Cf M1 M3 := ⟨fun b hb => (g.1 b hb).trans (h.1 b hb), fun c => ⟨(g.2 c).1.trans (h.2 c).1, (g.2 c).2.1.trans (h.2 c).2.1, (g.2 c).2.2.trans (h.2 c).2.2⟩⟩
theorem z_Cf_b {M M' : Mem} (h : ∀ b, b = 0 ∨ (14 ≤ b ∧ b ≤ 20) ∨ 25 ≤ b → M' b = M b) : z_Cf M M' := ⟨fun b hb => h b (by omega), fun c => ⟨h _ (by omega), h _ (by omega), by rw [h _ (by omega)]⟩⟩
theorem z_Cf_up {M : Mem} {k i : Nat} {x : Int32} (hk : (1 ≤ k ∧ k ≤ 13) ∨ (21 ≤ k ∧ k ≤ 24)) : z_Cf M (bw_up M k i x) := z_Cf_b (fun b hb => z_up_k _ _ _ _ (by omega))
theorem z_LOK_fr {M M' : Mem} {u : TU} (hf : z_Cf M M') (hu : z_LOK M u) : z_LOK M' u := by
  obtain ⟨a, b, c⟩ := hu
  refine ⟨z_Law_fr hf.2 a, b, ?_⟩
  unfold bw_lok at c ⊢
  rw [hf.1 0 (by omega)]; exact c
section
variable {m W pl c : Nat} {h t d A : Nat → Nat} {lw : Option TU}
def z_Pl (m W pl c : Nat) (h t d A : Nat → Nat) (lw : Option TU) (M : Mem) : Prop := M 1 0 = nI m ∧ M 1 4 = nI W ∧ M 1 5 = nI pl ∧ M 1 9 = nI c ∧ (∀ j, j < m → M 2 j = nI (h j) ∧ M 3 j = nI (t j) ∧ M 4 j = nI (d j)) ∧ (∀ k, k < c → M 5 k = nI (A k)) ∧ (match lw with
  | none => M 1 7 = 0
  | some u => M 1 7 = nI u.1 ∧ z_LOK M u) ∧ ∀ x, x < 2500 → lw ≠ none → M 6 x = -1 ∨ M 6 x = nI (z_P lw pl (x / 25) (x % 25))
def z_Bd (m W pl c : Nat) (h t d A : Nat → Nat) : Prop := m ≤ 24 ∧ W ≤ 999 ∧ pl ≤ 9 ∧ c ≤ 6 ∧ (∀ j, j < m → 1 ≤ h j ∧ h j ≤ 99 ∧ t j ≤ 99 ∧ d j ≤ 1) ∧ ∀ k, k < c → 1 ≤ A k ∧ A k ≤ 99
theorem z_Pl_fr {M M' : Mem} (hf : z_Cf M M') (h1 : ∀ x, x < 14 → M' 1 x = M 1 x) (h2 : ∀ k, 2 ≤ k → k ≤ 5 → M' k = M k) (h6 : ∀ x, x < 2500 → lw ≠ none → M' 6 x = -1 ∨ M' 6 x = nI (z_P lw pl (x / 25) (x % 25))) (hp : z_Pl m W pl c h t d A lw M) : z_Pl m W pl c h t d A lw M' := by
  obtain ⟨p1, p2, p3, p4, p5, p6, p7, p8⟩ := hp
  refine ⟨by rw [h1 _ (by omega)]; exact p1, by rw [h1 _ (by omega)]; exact p2, by rw [h1 _ (by omega)]; exact p3, by rw [h1 _ (by omega)]; exact p4, ?_, ?_, ?_, h6⟩
  · rw [h2 2 (by omega) (by omega), h2 3 (by omega) (by omega), h2 4 (by omega) (by omega)]; exact p5
  · rw [h2 5 (by omega) (by omega)]; exact p6
  · cases lw with
    | none => simp only at p7 ⊢; rw [h1 _ (by omega)]; exact p7
    | some u => simp only at p7 ⊢; rw [h1 _ (by omega)]; exact ⟨p7.1, z_LOK_fr hf p7.2⟩
theorem z_cSetL {M : Mem} {tl : Nat} (hc : c ≤ 6) (ht : tl ≤ 99) (h9 : M 1 9 = nI c) (h5 : ∀ k, k < c → M 5 k = nI (A k)) (hA : ∀ k, k < c → A k ≤ 99) : ∀ r i fu a, i + r = c → r < fu → a ≤ 99 → f_X2_setFor_L13 M (nI tl) fu (nI a) (nI i) = some (nI (z_sfL A tl r i a)) := by
  intro r
  induction r with
  | zero =>
    intro i fu a h1 h2 h3
    obtain ⟨fu, rfl⟩ : ∃ f, fu = f + 1 := ⟨fu - 1, by omega⟩
    rw [f_X2_setFor_L13, h9, if_pos (nI_le (by omega) (by omega))]; rfl
  | succ r ih =>
    intro i fu a h1 h2 h3
    obtain ⟨fu, rfl⟩ : ∃ f, fu = f + 1 := ⟨fu - 1, by omega⟩
    have ha := hA i (by omega)
    rw [f_X2_setFor_L13, h9, if_neg (nI_ge (by omega) (by omega)), z_ib (by omega) (by omega), if_pos rfl, nI_clamp (by omega), h5 i (by omega), nI_1]
    have e : (if nI (A i) < nI tl then nI a else if nI a = 0 then nI (A i) else if nI a ≤ nI (A i) then nI a else nI (A i)) = nI (if A i < tl then a else if a = 0 then A i else if a ≤ A i then a else A i) := by
      by_cases g1 : A i < tl
      · rw [if_pos (nI_lt g1 (by omega)), if_pos g1]
      · rw [if_neg (nI_nlt (by omega) (by omega)), if_neg g1]
        by_cases g2 : a = 0
        · rw [if_pos (show nI a = 0 from congrArg nI g2), if_pos g2]
        · rw [if_neg (show ¬ nI a = 0 from nI_ne0 (by omega) (by omega)), if_neg g2]
          by_cases g3 : a ≤ A i
          · rw [if_pos (nI_le g3 (by omega)), if_pos g3]
          · rw [if_neg (nI_ge (by omega) (by omega)), if_neg g3]
    rw [e, ih (i + 1) fu _ (by omega) (by omega) (by split; omega; split; omega; split <;> omega)]
    rfl
theorem z_cSet {M : Mem} {tl : Nat} (hb : z_Bd m W pl c h t d A) (hp : z_Pl m W pl c h t d A lw M) (ht : tl ≤ 99) : f_X2_setFor M (nI tl) = some (nI (z_sf A c tl)) := by
  have hfu : 30 < bw_fu := by decide
  obtain ⟨b1, b2, b3, b4, b5, b6⟩ := hb
  obtain ⟨p1, p2, p3, p4, p5, p6, p7, p8⟩ := hp
  unfold f_X2_setFor z_sf
  rw [p4]
  by_cases g : c = 0
  · rw [if_pos (show nI c = 0 from congrArg nI g), if_pos g]
  · rw [if_neg (show ¬ nI c = 0 from nI_ne0 (by omega) (by omega)), if_neg g, l_0]
    exact z_cSetL b4 ht p4 p6 (fun k hk => (b6 k hk).2) c 0 bw_fu 0 (by omega) (by omega) (by omega)
theorem z_cPr {M : Mem} {s b : Nat} (hbd : z_Bd m W pl c h t d A) (hp : z_Pl m W pl c h t d A lw M) (hs : s ≤ 99) (hb : b ≤ 24) : ∃ M', f_X2_priceOf M (nI s) (nI b) = some (nI (z_P lw pl s b), M') ∧ z_Pl m W pl c h t d A lw M' ∧ z_Cf M M' ∧ ∀ k, 1 ≤ k → k ≤ 24 → k ≠ 6 → M' k = M k := by
  obtain ⟨b1, b2, b3, b4, b5, b6⟩ := hbd
  have hp' := hp
  obtain ⟨p1, p2, p3, p4, p5, p6, p7, p8⟩ := hp
  unfold f_X2_priceOf
  cases lw with
  | none =>
    simp only at p7
    refine ⟨M, ?_, hp', z_Cf_r M, fun _ _ _ _ => rfl⟩
    rw [if_pos p7, p3, nI_add]; rfl
  | some u =>
    simp only at p7
    obtain ⟨p7, hu⟩ := p7
    have ne : ¬ nI u.1 = 0 := nI_ne0 (by have := hu.2.1.1; omega) (by have := hu.2.1.2.1; omega)
    have at1 : nI s * 25 + nI b = nI (s * 25 + b) := by rw [l_25, pk_mul, nI_add]
    have wi : f_X9_isWithin (nI (s * 25 + b)) 0 (2500 - 1) = 1 := by
      have := z_wiN (j := s * 25 + b) (a := 0) (b := 2499) (by omega) (by omega) (by omega)
      rw [if_pos (by omega)] at this
      exact this
    have dm : (s * 25 + b) / 25 = s ∧ (s * 25 + b) % 25 = b := by omega
    have hx := p8 (s * 25 + b) (by omega) (by intro e; cases e)
    rw [dm.1, dm.2] at hx
    rw [p7, if_neg ne, at1, wi, if_neg (by decide), z_ib (by omega) (by omega), if_pos rfl, nI_clamp (by omega)]
    have hle := z_P_le (lw := some u) (pl := pl) (h := s) (b := b) b3 hs
    rcases hx with hx | hx
    · obtain ⟨M1, g1, g2, g3⟩ := z_givL (nI s) (nI b) (nI pl) hu
      have lk : bw_lok M (nI u.1) = true := hu.2.2
      have fr1 : z_Cf M M1 := by
        refine ⟨fun b hb => g3 b (by rw [z_lcN2]; omega), fun c => ⟨g3 _ (by rw [z_lcN2]; omega), g3 _ (by rw [z_lcN2]; omega), ?_⟩⟩
        by_cases e : 131 + 3 * c = z_lcN u.1 + 2
        · rw [e]; exact g2
        · rw [g3 _ e]
      have frk : ∀ k, k ≤ 128 → M1 k = M k := fun k hk => g3 k (by rw [z_lcN2]; omega)
      refine ⟨bw_up M1 6 (s * 25 + b) (nI (z_P (some u) pl s b)), ?_, ?_, z_Cf_t fr1 (z_Cf_up (by omega)), ?_⟩
      · rw [if_neg (by rw [hx]; decide), p3, g1, Option.bind_some, lk, if_pos rfl, l_9999, z_heldE (by omega), z_ml, z_up_s]
        rfl
      · refine z_Pl_fr (z_Cf_t fr1 (z_Cf_up (by omega))) ?_ ?_ ?_ hp'
        · intro x _; rw [z_up_k _ _ _ _ (by omega), frk 1 (by omega)]
        · intro k h1 h2; rw [z_up_k _ _ _ _ (by omega), frk k (by omega)]
        · intro x hx hq
          rw [z_up]
          by_cases e : x = s * 25 + b
          · subst e; rw [dm.1, dm.2]; right; simp
          · simp only [e, and_false, if_false]; rw [frk 6 (by omega)]; exact p8 x hx hq
      · intro k h1 h2 h3
        rw [z_up_k _ _ _ _ h3, frk k (by omega)]
    · refine ⟨M, ?_, hp', z_Cf_r M, fun _ _ _ _ => rfl⟩
      rw [hx, if_pos (nI_pos' (by omega))]
/-- one book's part of the search -/
theorem z_cIn (hbd : z_Bd m W pl c h t d A) (L : Nat → Option Nat) (i : Nat) (hi : i < m) (hL : ∀ k q, i < k → L k = some q → q ≤ 9999 * (m - k)) : ∀ r j fu th tl M b x, z_Pl m W pl c h t d A lw M → j + r = m → r < fu → i ≤ j → th ≤ 99 * j → tl ≤ 99 → M 7 i = z_oI b → M 8 i = nI x → (∀ k, i < k → k ≤ m → M 7 k = z_oI (L k)) → (∀ q, b = some q → q ≤ 9999 * (m - i)) → ∃ M', f_X2_priceFrom_L24 (nI i) fu (nI th) (nI tl) (nI j) M = some M' ∧ z_Pl m W pl c h t d A lw M' ∧ z_Cf M M' ∧ M' 7 i = z_oI (z_i1 m W h t d (z_sf A c) (z_P lw pl) L i r j th tl b x).1 ∧ M' 8 i = nI (z_i1 m W h t d (z_sf A c) (z_P lw pl) L i r j th tl b x).2 ∧ (∀ k, k ≠ i → M' 7 k = M 7 k ∧ M' 8 k = M 8 k) ∧ ∀ k, 1 ≤ k → k ≤ 24 → k ≠ 6 → k ≠ 7 → k ≠ 8 → M' k = M k := by
  obtain ⟨b1, b2, b3, b4, b5, b6⟩ := hbd
  have hbd' : z_Bd m W pl c h t d A := ⟨b1, b2, b3, b4, b5, b6⟩
  intro r
  induction r with
  | zero =>
    intro j fu th tl M b x hp h1 h2 h3 h4 h5 h7 h8 hk hb
    obtain ⟨fu, rfl⟩ : ∃ f, fu = f + 1 := ⟨fu - 1, by omega⟩
    refine ⟨M, ?_, hp, z_Cf_r M, h7, h8, fun _ _ => ⟨rfl, rfl⟩, fun _ _ _ _ _ _ => rfl⟩
    rw [f_X2_priceFrom_L24, hp.1, if_pos (nI_le (by omega) (by omega))]
  | succ r ih =>
    intro j fu th tl M b x hp h1 h2 h3 h4 h5 h7 h8 hk hb
    obtain ⟨fu, rfl⟩ : ∃ f, fu = f + 1 := ⟨fu - 1, by omega⟩
    obtain ⟨p1, p2, p3, p4, p5, p6, p7, p8⟩ := hp
    have hp' : z_Pl m W pl c h t d A lw M := ⟨p1, p2, p3, p4, p5, p6, p7, p8⟩
    obtain ⟨q1, q2, q3⟩ := p5 j (by omega)
    obtain ⟨r1, r2, r3, r4⟩ := b5 j (by omega)
    have mxE : bw_max (nI tl) (nI (h j)) = nI (z_mx tl (h j)) := z_maxN (by omega) (by omega)
    have mx99 : z_mx tl (h j) ≤ 99 := z_mx_le h5 r2
    have sE := z_cSet hbd' hp' mx99
    have s99 : z_sf A c (z_mx tl (h j)) ≤ 99 := z_sf_le (fun k hk => (b6 k hk).2) mx99
    have eE : f_X2_endsLine M (nI j) = some (if m ≤ j + 1 ∨ d j = 0 then 1 else 0) := by
      unfold f_X2_endsLine
      rw [p1, nI_1]
      by_cases g : m ≤ j + 1
      · rw [if_pos (nI_le g (by omega)), if_pos (Or.inl g)]
      · rw [if_neg (nI_ge (by omega) (by omega)), z_ib (by omega) (by omega), if_pos rfl, nI_clamp (by omega), q3]
        by_cases g2 : d j = 0
        · rw [if_pos (show nI (d j) = 0 from congrArg nI g2), if_pos (Or.inr g2)]
        · rw [if_neg (show ¬ nI (d j) = 0 from nI_ne0 (by omega) (by omega)), if_neg (by omega)]
    rw [f_X2_priceFrom_L24, p1, if_neg (nI_ge (by omega) (by omega)), z_ib (by omega) (by omega), if_pos rfl, nI_clamp (by omega), q1, q2, mxE, z_ml, p2, nI_add, sE, Option.bind_some, eE, Option.bind_some, nI_1, z_i1]
    by_cases gW : W < th + t j
    · rw [if_neg (nI_ge (by omega) (by omega)), if_pos gW]
      exact ⟨M, rfl, hp', z_Cf_r M, h7, h8, fun _ _ => ⟨rfl, rfl⟩, fun _ _ _ _ _ _ => rfl⟩
    · rw [if_pos (nI_le (by omega) (by omega)), if_neg gW]
      have rec0 := ih (j + 1) fu (th + t j) (z_mx tl (h j)) M b x hp' (by omega) (by omega) (by omega) (by omega) mx99 h7 h8 hk hb
      by_cases gE : m ≤ j + 1 ∨ d j = 0
      · rw [if_pos gE, if_neg (by decide)]
        by_cases gS : z_sf A c (z_mx tl (h j)) = 0
        · rw [if_pos (show nI (z_sf A c (z_mx tl (h j))) ≤ 0 from nI_le (b := 0) (by omega) (by omega)), if_neg (show ¬ ((m ≤ j + 1 ∨ d j = 0) ∧ 0 < z_sf A c (z_mx tl (h j))) by omega)]
          exact rec0
        · rw [if_neg (nI_nle (by omega) (by omega)), if_pos (show (m ≤ j + 1 ∨ d j = 0) ∧ 0 < z_sf A c (z_mx tl (h j)) by omega), z_ib (by omega) (by omega), if_pos rfl, nI_clamp (by omega), hk (j + 1) (by omega) (by omega)]
          cases hLj : L (j + 1) with
          | none =>
            rw [if_pos (show z_oI none < 0 by decide)]
            exact rec0
          | some q =>
            have q9 := hL (j + 1) q (by omega) hLj
            rw [if_neg (show ¬ z_oI (some q) < 0 from nI_pos (by omega)), pk_sub (by omega)]
            obtain ⟨M1, e1, e2, e3, e4⟩ := z_cPr (s := z_sf A c (z_mx tl (h j))) (b := j + 1 - i) hbd' hp' s99 (by omega)
            have P9 := z_P_le (lw := lw) (pl := pl) (h := z_sf A c (z_mx tl (h j))) (b := j + 1 - i) b3 s99
            have m7 : M1 7 = M 7 := e4 7 (by omega) (by omega) (by omega)
            have m8 : M1 8 = M 8 := e4 8 (by omega) (by omega) (by omega)
            obtain ⟨pr, e1, ep1, ep2⟩ : ∃ pr : Int32 × Mem, f_X2_priceOf M (nI (z_sf A c (z_mx tl (h j)))) (nI (j + 1 - i)) = some pr ∧ pr.1 = nI (z_P lw pl (z_sf A c (z_mx tl (h j))) (j + 1 - i)) ∧ pr.2 = M1 := ⟨_, e1, rfl, rfl⟩
            rw [e1, Option.bind_some, ep1, ep2, m7, hk (j + 1) (by omega) (by omega), hLj, show z_oI (some q) = nI q from rfl, nI_add, z_ml, z_ib (by omega) (by omega), if_pos rfl, nI_clamp (by omega), h7]
            generalize z_P lw pl (z_sf A c (z_mx tl (h j))) (j + 1 - i) = p0 at *
            -- the better one is taken
            have up : ∃ M', f_X2_priceFrom_L24 (nI i) fu (nI (th + t j)) (nI (z_mx tl (h j))) (nI (j + 1)) (bw_up (bw_up M1 7 i (nI (p0 + q))) 8 i (nI (j + 1))) = some M' ∧ z_Pl m W pl c h t d A lw M' ∧ z_Cf M M' ∧ M' 7 i = z_oI (z_i1 m W h t d (z_sf A c) (z_P lw pl) L i r (j + 1) (th + t j) (z_mx tl (h j)) (some (p0 + q)) (j + 1)).1 ∧ M' 8 i = nI (z_i1 m W h t d (z_sf A c) (z_P lw pl) L i r (j + 1) (th + t j) (z_mx tl (h j)) (some (p0 + q)) (j + 1)).2 ∧ (∀ k, k ≠ i → M' 7 k = M 7 k ∧ M' 8 k = M 8 k) ∧ ∀ k, 1 ≤ k → k ≤ 24 → k ≠ 6 → k ≠ 7 → k ≠ 8 → M' k = M k := by
              obtain ⟨M2, hM2⟩ : ∃ M2, M2 = bw_up (bw_up M1 7 i (nI (p0 + q))) 8 i (nI (j + 1)) := ⟨_, rfl⟩
              have o2 : ∀ b, b ≠ 7 → b ≠ 8 → M2 b = M1 b := by
                intro b g1 g2; rw [hM2, z_up_k _ _ _ _ g2, z_up_k _ _ _ _ g1]
              have c2 : z_Cf M1 M2 := z_Cf_b (fun b hb => o2 b (by omega) (by omega))
              have a7 : ∀ k, M2 7 k = if k = i then nI (p0 + q) else M 7 k := by
                intro k; rw [hM2, z_up_k _ _ _ _ (by omega), z_up, m7]; by_cases e : k = i <;> simp [e]
              have a8 : ∀ k, M2 8 k = if k = i then nI (j + 1) else M 8 k := by
                intro k; rw [hM2, z_up, z_up_k _ _ _ _ (by omega), m8]; by_cases e : k = i <;> simp [e]
              have pl2 : z_Pl m W pl c h t d A lw M2 := z_Pl_fr c2 (fun x _ => by rw [o2 1 (by omega) (by omega)]) (fun k g1 g2 => o2 k (by omega) (by omega)) (by rw [o2 6 (by omega) (by omega)]; exact e2.2.2.2.2.2.2.2) e2
              obtain ⟨M', f1, f2, f3, f4, f5, f6, f7⟩ := ih (j + 1) fu (th + t j) (z_mx tl (h j)) M2 (some (p0 + q)) (j + 1) pl2 (by omega) (by omega) (by omega) (by omega) mx99 (by rw [a7, if_pos rfl]; rfl) (by rw [a8, if_pos rfl]) (by intro k g1 g2; rw [a7, if_neg (by omega)]; exact hk k g1 g2) (by intro q' hq'; injection hq' with hq'; omega)
              rw [hM2] at f1
              refine ⟨M', f1, f2, z_Cf_t e3 (z_Cf_t c2 f3), f4, f5, ?_, ?_⟩
              · intro k g1
                rw [(f6 k g1).1, (f6 k g1).2, a7, a8, if_neg g1, if_neg g1]; exact ⟨rfl, rfl⟩
              · intro k g1 g2 g3 g4 g5; rw [f7 k g1 g2 g3 g4 g5, o2 k g4 g5, e4 k g1 g2 g3]
            cases b with
            | none =>
              rw [if_pos (show z_oI none < 0 by decide), z_ml, z_ml]
              dsimp only
              rw [if_pos (show z_bt none (p0 + q) = true from rfl)]
              exact up
            | some b0 =>
              have b9 := hb b0 rfl
              rw [if_neg (show ¬ z_oI (some b0) < 0 from nI_pos (by omega))]
              by_cases gb : p0 + q ≤ b0
              · rw [if_neg (show ¬ z_oI (some b0) < nI (p0 + q) from nI_nlt gb (by omega)), z_ml, z_ml]
                dsimp only
                rw [if_pos (show z_bt (some b0) (p0 + q) = true by simp [z_bt, gb])]
                exact up
              · rw [if_pos (show z_oI (some b0) < nI (p0 + q) from nI_lt (by omega) (by omega))]
                dsimp only
                rw [if_neg (show ¬ z_bt (some b0) (p0 + q) = true by simp [z_bt]; omega)]
                obtain ⟨M', f1, f2, f3, f4, f5, f6, f7⟩ := ih (j + 1) fu (th + t j) (z_mx tl (h j)) M1 (some b0) x e2 (by omega) (by omega) (by omega) (by omega) mx99 (by rw [m7]; exact h7) (by rw [m8]; exact h8) (by rw [m7]; exact hk) hb
                refine ⟨M', f1, f2, z_Cf_t e3 f3, f4, f5, ?_, ?_⟩
                · intro k g1; rw [(f6 k g1).1, (f6 k g1).2, m7, m8]; exact ⟨rfl, rfl⟩
                · intro k g1 g2 g3 g4 g5; rw [f7 k g1 g2 g3 g4 g5, e4 k g1 g2 g3]
      · rw [if_neg gE, if_pos rfl, if_neg (show ¬ ((m ≤ j + 1 ∨ d j = 0) ∧ 0 < z_sf A c (z_mx tl (h j))) by omega)]
        exact rec0
end
