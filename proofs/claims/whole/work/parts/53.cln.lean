/-! level 2: the lines of a setting; the class's settle -/
def z_tl (h : Nat → Nat) (i : Nat) : Nat → Nat
  | 0 => 0
  | n + 1 => z_mx (z_tl h i n) (h (i + n))
theorem z_tl_le {h : Nat → Nat} {i m : Nat} (hh : ∀ j, j < m → h j ≤ 99) : ∀ n, i + n ≤ m → z_tl h i n ≤ 99 := by
  intro n
  induction n with
  | zero => intro _; simp [z_tl]
  | succ n ih => intro hn; rw [z_tl]; exact z_mx_le (ih (by omega)) (hh _ (by omega))
def z_ts (t : Nat → Nat) (i : Nat) : Nat → Nat
  | 0 => 0
  | n + 1 => z_ts t i n + t (i + n)
theorem z_ts_le {t : Nat → Nat} {i m : Nat} (hh : ∀ j, j < m → t j ≤ 99) : ∀ n, i + n ≤ m → z_ts t i n ≤ 99 * n := by
  intro n
  induction n with
  | zero => intro _; simp [z_ts]
  | succ n ih => intro hn; rw [z_ts]; have := ih (by omega); have := hh (i + n) (by omega); omega
section
variable (m W : Nat) (h t d sf : Nat → Nat) (P : Nat → Nat → Nat)
theorem z_i1T (L : Nat → Option Nat) (i : Nat) : ∀ r j th b x, j + r = m → i ≤ j → (z_i1 m W h t d sf P L i r j th (z_tl h i (j - i)) b x = (b, x)) ∨ 0 < sf (z_tl h i ((z_i1 m W h t d sf P L i r j th (z_tl h i (j - i)) b x).2 - i)) := by
  intro r
  induction r with
  | zero => intro j th b x _ _; left; rfl
  | succ r ih =>
    intro j th b x h1 h2
    have e : z_mx (z_tl h i (j - i)) (h j) = z_tl h i (j + 1 - i) := by
      rw [show j + 1 - i = (j - i) + 1 by omega, z_tl, show i + (j - i) = j by omega]
    rw [z_i1, e]
    by_cases g : W < th + t j
    · rw [if_pos g]; left; rfl
    · rw [if_neg g]
      by_cases g2 : (m ≤ j + 1 ∨ d j = 0) ∧ 0 < sf (z_tl h i (j + 1 - i))
      · rw [if_pos g2]
        cases hL : L (j + 1) with
        | none => exact ih (j + 1) _ _ _ (by omega) (by omega)
        | some q =>
          dsimp only
          by_cases g3 : z_bt b (P (sf (z_tl h i (j + 1 - i))) (j + 1 - i) + q) = true
          · rw [if_pos g3]
            rcases ih (j + 1) (th + t j) (some (P (sf (z_tl h i (j + 1 - i))) (j + 1 - i) + q)) (j + 1) (by omega) (by omega) with f | f
            · right; rw [f]; exact g2.2
            · right; exact f
          · rw [if_neg g3]; exact ih (j + 1) _ _ _ (by omega) (by omega)
      · rw [if_neg g2]; exact ih (j + 1) _ _ _ (by omega) (by omega)
theorem z_outT : ∀ k, k ≤ m → ∀ j q, j < m → (z_out m W h t d sf P k).1 j = some q → 0 < sf (z_tl h j ((z_out m W h t d sf P k).2 j - j)) := by
  intro k
  induction k with
  | zero => intro _ j q hj hq; rw [z_out] at hq; simp only at hq; rw [if_neg (by omega)] at hq; simp at hq
  | succ k ih =>
    intro hk j q hj hq
    by_cases g : j = m - 1 - k
    · have e1 : (z_out m W h t d sf P (k + 1)).1 j = (z_i1 m W h t d sf P (z_out m W h t d sf P k).1 (m - 1 - k) (k + 1) (m - 1 - k) 0 0 none m).1 := by rw [z_out]; simp only; rw [if_pos g]
      have e2 : (z_out m W h t d sf P (k + 1)).2 j = (z_i1 m W h t d sf P (z_out m W h t d sf P k).1 (m - 1 - k) (k + 1) (m - 1 - k) 0 0 none m).2 := by rw [z_out]; simp only; rw [if_pos g]
      rw [e1] at hq
      rw [e2, g]
      have := z_i1T m W h t d sf P (z_out m W h t d sf P k).1 (m - 1 - k) (k + 1) (m - 1 - k) 0 none m (by omega) (by omega)
      rw [Nat.sub_self, show z_tl h (m - 1 - k) 0 = 0 from rfl] at this
      rcases this with e | e
      · rw [e] at hq; simp at hq
      · exact e
    · by_cases g2 : j < m - 1 - k
      · rw [z_outN m W h t d sf P (k + 1) j hk (by omega)] at hq; simp at hq
      · obtain ⟨e1, e2⟩ := z_outK m W h t d sf P k j (by omega)
        rw [e1] at hq
        rw [e2]
        exact ih (by omega) j q hj hq
end
/-- the first books of the lines -/
def z_st (N : Nat → Nat) (m : Nat) : Nat → Nat → List Nat
  | 0, _ => []
  | f + 1, a => if a < m then a :: z_st N m f (N a) else []
theorem z_st_f {N : Nat → Nat} {m : Nat} {L : Nat → Option Nat} (hN : ∀ j q, j < m → L j = some q → j < N j ∧ N j ≤ m ∧ ∃ q', L (N j) = some q') : ∀ f a, m - a < f → a ≤ m → (∃ q, L a = some q) → a + (z_st N m f a).length ≤ m ∧ (z_st N m f a).getD 0 m = a ∧ ∀ k, k < (z_st N m f a).length → (∃ q, L ((z_st N m f a).getD k m) = some q) ∧ (z_st N m f a).getD k m < m ∧ (z_st N m f a).getD (k + 1) m = N ((z_st N m f a).getD k m) := by
  intro f
  induction f with
  | zero => intro a h1 _ _; omega
  | succ f ih =>
    intro a h1 h2 h3
    rw [z_st]
    by_cases g : a < m
    · rw [if_pos g]
      obtain ⟨q, hq⟩ := h3
      obtain ⟨n1, n2, n3⟩ := hN a q g hq
      obtain ⟨i1, i2, i3⟩ := ih (N a) (by omega) n2 n3
      refine ⟨by simp only [List.length_cons]; omega, by simp, ?_⟩
      intro k hk
      cases k with
      | zero =>
        rw [List.getD_cons_zero, List.getD_cons_succ]
        exact ⟨⟨q, hq⟩, g, i2⟩
      | succ k =>
        rw [List.getD_cons_succ, List.getD_cons_succ]
        simp only [List.length_cons] at hk
        exact i3 k (by omega)
    · rw [if_neg g]
      exact ⟨by simp; omega, by simp; omega, fun k hk => by simp at hk⟩
section
variable {m W pl c : Nat} {h t d A : Nat → Nat} {lw : Option TU}
theorem z_cOut (hbd : z_Bd m W pl c h t d A) : ∀ i k fu M, i + k = m → i < fu → z_Pl m W pl c h t d A lw M → (∀ j, i ≤ j → j ≤ m → M 7 j = z_oI ((z_out m W h t d (z_sf A c) (z_P lw pl) k).1 j)) → (∀ j, i ≤ j → j < m → M 8 j = nI ((z_out m W h t d (z_sf A c) (z_P lw pl) k).2 j)) → ∃ M', f_X2_leastPrices_L17 fu (nI i - 1) M = some ((match (z_out m W h t d (z_sf A c) (z_P lw pl) m).1 0 with | none => -1000000005 | some q => nI q), M') ∧ z_Pl m W pl c h t d A lw M' ∧ z_Cf M M' ∧ (∀ j, j ≤ m → M' 7 j = z_oI ((z_out m W h t d (z_sf A c) (z_P lw pl) m).1 j)) ∧ (∀ j, j < m → M' 8 j = nI ((z_out m W h t d (z_sf A c) (z_P lw pl) m).2 j)) ∧ ∀ k, 1 ≤ k → k ≤ 24 → k ≠ 6 → k ≠ 7 → k ≠ 8 → M' k = M k := by
  have hbd' := hbd
  obtain ⟨b1, b2, b3, b4, b5, b6⟩ := hbd
  have hfu : 100 < bw_fu := by decide
  have hP : ∀ a b, a ≤ 99 → z_P lw pl a b ≤ 9999 := fun a b ha => z_P_le b3 ha
  have hsf : ∀ a, a ≤ 99 → z_sf A c a ≤ 99 := fun a ha => z_sf_le (fun k hk => (b6 k hk).2) ha
  have hB := z_outB m W h t d (z_sf A c) (z_P lw pl) hP hsf (fun j hj => (b5 j hj).2.1)
  intro i
  induction i with
  | zero =>
    intro k fu M h1 h2 hp h7 h8
    obtain ⟨fu, rfl⟩ : ∃ f, fu = f + 1 := ⟨fu - 1, by omega⟩
    have hk : k = m := by omega
    subst hk
    refine ⟨M, ?_, hp, z_Cf_r M, fun j hj => h7 j (by omega) hj, fun j hj => h8 j (by omega) hj, fun _ _ _ _ _ _ => rfl⟩
    rw [f_X2_leastPrices_L17, if_pos (by decide), show ((0 : Int32).toNatClampNeg) = 0 from rfl, h7 0 (by omega) (by omega)]
    cases hL : (z_out k W h t d (z_sf A c) (z_P lw pl) k).1 0 with
    | none => rw [if_neg (show ¬ 0 ≤ z_oI none by decide)]
    | some q => rw [if_pos (show 0 ≤ z_oI (some q) from nI_pos' (by have := hB k (by omega) 0 q hL; omega))]; rfl
  | succ i ih =>
    intro k fu M h1 h2 hp h7 h8
    obtain ⟨fu, rfl⟩ : ∃ f, fu = f + 1 := ⟨fu - 1, by omega⟩
    have ik : i = m - 1 - k := by omega
    obtain ⟨M1, hM1⟩ : ∃ M1, M1 = bw_up (bw_up M 7 i (-1)) 8 i (nI m) := ⟨_, rfl⟩
    have o1 : ∀ b, b ≠ 7 → b ≠ 8 → M1 b = M b := by intro b g1 g2; rw [hM1, z_up_k _ _ _ _ g2, z_up_k _ _ _ _ g1]
    have c1 : z_Cf M M1 := z_Cf_b (fun b hb => o1 b (by omega) (by omega))
    have p1 : z_Pl m W pl c h t d A lw M1 := z_Pl_fr c1 (fun x _ => by rw [o1 1 (by omega) (by omega)]) (fun k g1 g2 => o1 k (by omega) (by omega)) (by rw [o1 6 (by omega) (by omega)]; exact hp.2.2.2.2.2.2.2) hp
    have a7 : ∀ k, M1 7 k = if k = i then -1 else M 7 k := by
      intro k; rw [hM1, z_up_k _ _ _ _ (by omega), z_up]; by_cases e : k = i <;> simp [e]
    have a8 : ∀ k, M1 8 k = if k = i then nI m else M 8 k := by
      intro k; rw [hM1, z_up, z_up_k _ _ _ _ (by omega)]; by_cases e : k = i <;> simp [e]
    obtain ⟨M2, e1, e2, e3, e4, e5, e6, e7⟩ := z_cIn (lw := lw) hbd' (z_out m W h t d (z_sf A c) (z_P lw pl) k).1 i (by omega) (fun k' q _ hq => hB k (by omega) k' q hq) (k + 1) i bw_fu 0 0 M1 none m p1 (by omega) (by omega) (by omega) (by omega) (by omega) (by rw [a7, if_pos rfl]; rfl) (by rw [a8, if_pos rfl]) (by intro k' g1 g2; rw [a7, if_neg (by omega)]; exact h7 k' (by omega) g2) (by intro q hq; simp at hq)
    obtain ⟨M', f1, f2, f3, f4, f5, f6⟩ := ih (k + 1) fu M2 (by omega) (by omega) e2 (by
      intro j g1 g2
      by_cases g : j = i
      · rw [g, e4, z_out]; simp only; rw [if_pos ik, ← ik]
      · rw [(e6 j g).1, a7, if_neg g, (z_outK m W h t d (z_sf A c) (z_P lw pl) k j (by omega)).1]; exact h7 j (by omega) g2) (by
      intro j g1 g2
      by_cases g : j = i
      · rw [g, e5, z_out]; simp only; rw [if_pos ik, ← ik]
      · rw [(e6 j g).2, a8, if_neg g, (z_outK m W h t d (z_sf A c) (z_P lw pl) k j (by omega)).2]; exact h8 j (by omega) g2)
    refine ⟨M', ?_, f2, z_Cf_t c1 (z_Cf_t e3 f3), f4, f5, ?_⟩
    · rw [f_X2_leastPrices_L17, nI_pred, if_neg (nI_pos (by omega))]
      have pf : f_X2_priceFrom M (nI i) = some M2 := by
        unfold f_X2_priceFrom
        rw [z_ib (by omega) (by omega), if_pos rfl, nI_clamp (by omega), z_ml, z_ml, z_up_k _ _ _ _ (by omega), hp.1, ← hM1, l_0]
        exact e1
      rw [pf, Option.bind_some, f1]
    · intro k' g1 g2 g3 g4 g5
      rw [f6 k' g1 g2 g3 g4 g5, e7 k' g1 g2 g3 g4 g5, o1 k' g4 g5]
theorem z_cLst {M : Mem} (hbd : z_Bd m W pl c h t d A) (hp : z_Pl m W pl c h t d A lw M) : ∃ M', f_X2_leastPrices M = some ((match (z_out m W h t d (z_sf A c) (z_P lw pl) m).1 0 with | none => -1000000005 | some q => nI q), M') ∧ z_Pl m W pl c h t d A lw M' ∧ z_Cf M M' ∧ (∀ j, j ≤ m → M' 7 j = z_oI ((z_out m W h t d (z_sf A c) (z_P lw pl) m).1 j)) ∧ (∀ j, j < m → M' 8 j = nI ((z_out m W h t d (z_sf A c) (z_P lw pl) m).2 j)) ∧ ∀ k, 1 ≤ k → k ≤ 24 → k ≠ 6 → k ≠ 7 → k ≠ 8 → M' k = M k := by
  have hbd' := hbd
  obtain ⟨b1, b2, b3, b4, b5, b6⟩ := hbd
  have hfu : 100 < bw_fu := by decide
  have o1 : ∀ b, b ≠ 7 → bw_up M 7 m (nI 0) b = M b := fun b hb => z_up_k _ _ _ _ hb
  have c1 : z_Cf M (bw_up M 7 m (nI 0)) := z_Cf_up (by omega)
  have p1 : z_Pl m W pl c h t d A lw (bw_up M 7 m (nI 0)) := z_Pl_fr c1 (fun x _ => by rw [o1 1 (by omega)]) (fun k g1 g2 => o1 k (by omega)) (by rw [o1 6 (by omega)]; exact hp.2.2.2.2.2.2.2) hp
  obtain ⟨M', f1, f2, f3, f4, f5, f6⟩ := z_cOut (lw := lw) hbd' m 0 bw_fu _ (by omega) (by omega) p1 (by
    intro j g1 g2
    rw [show j = m by omega, z_up_s, z_out]; simp only [if_true]; rfl) (by intro j g1 g2; omega)
  refine ⟨M', ?_, f2, z_Cf_t c1 f3, f4, f5, ?_⟩
  · unfold f_X2_leastPrices
    rw [hp.1, z_ib (by omega) (by omega), if_pos rfl, nI_clamp (by omega), z_ml, l_0, o1 1 (by omega), hp.1]
    exact f1
  · intro k g1 g2 g3 g4 g5; rw [f6 k g1 g2 g3 g4 g5, o1 k g4]
theorem z_cSt {N : Nat → Nat} {L : Nat → Option Nat} (hm : m ≤ 24) (hN : ∀ j q, j < m → L j = some q → j < N j ∧ N j ≤ m ∧ ∃ q', L (N j) = some q') : ∀ f a ln fu M, m - a < f → m - a < fu → ln ≤ a → a ≤ m → (∃ q, L a = some q) → M 1 14 = nI ln → M 1 0 = nI m → (∀ j, j < m → M 8 j = nI (N j)) → ∃ M', f_X2_settle_L18 fu (nI a) (nI ln) M = some (1, M') ∧ M' 1 14 = nI (ln + (z_st N m f a).length) ∧ (∀ x, x ≠ 14 → M' 1 x = M 1 x) ∧ (∀ k, k ≤ (z_st N m f a).length → M' 9 (ln + k) = nI ((z_st N m f a).getD k m)) ∧ (∀ k, k < ln → M' 9 k = M 9 k) ∧ ∀ b, b ≠ 1 → b ≠ 9 → M' b = M b := by
  intro f
  induction f with
  | zero => intro a ln fu M h1; omega
  | succ f ih =>
    intro a ln fu M h1 h2 h3 h4 h5 h6 h7 h8
    obtain ⟨fu, rfl⟩ : ∃ f, fu = f + 1 := ⟨fu - 1, by omega⟩
    rw [z_st]
    by_cases g : a < m
    · rw [if_pos g]
      obtain ⟨q, hq⟩ := h5
      obtain ⟨n1, n2, n3⟩ := hN a q g hq
      obtain ⟨M1, hM1⟩ : ∃ M1, M1 = bw_up (bw_up M 9 ln (nI a)) 1 14 (nI (ln + 1)) := ⟨_, rfl⟩
      have o1 : ∀ b, b ≠ 1 → b ≠ 9 → M1 b = M b := by intro b g1 g2; rw [hM1, z_up_k _ _ _ _ g1, z_up_k _ _ _ _ g2]
      have o11 : ∀ x, x ≠ 14 → M1 1 x = M 1 x := by intro x hx; rw [hM1, z_up_i _ _ _ _ hx, z_up_k _ _ _ _ (by omega)]
      have o9 : ∀ k, M1 9 k = if k = ln then nI a else M 9 k := by
        intro k; rw [hM1, z_up_k _ _ _ _ (by omega), z_up]; by_cases e : k = ln <;> simp [e]
      obtain ⟨M', e1, e2, e3, e4, e5, e6⟩ := ih (N a) (ln + 1) fu M1 (by omega) (by omega) (by omega) n2 n3 (by rw [hM1, z_up_s]) (by rw [o11 0 (by omega)]; exact h7) (by intro j hj; rw [o1 8 (by omega) (by omega)]; exact h8 j hj)
      refine ⟨M', ?_, ?_, ?_, ?_, ?_, ?_⟩
      · rw [f_X2_settle_L18, l_24, if_neg (nI_ge (by omega) (by omega)), h7, if_neg (nI_ge (by omega) (by omega)), h6, z_ib (by omega) (by omega), if_pos rfl, nI_clamp (by omega), z_ml, z_ml, show bw_up M 9 ln (nI a) 1 = M 1 from z_up_k _ _ _ _ (by omega), h6, nI_1, ← hM1, z_ib (by omega) (by omega), if_pos rfl, nI_clamp (by omega), o1 8 (by omega) (by omega), h8 a g]
        exact e1
      · rw [e2]; simp only [List.length_cons]; congr 1; omega
      · intro x hx; rw [e3 x hx, o11 x hx]
      · intro k hk
        simp only [List.length_cons] at hk
        cases k with
        | zero => rw [Nat.add_zero, e5 ln (by omega), o9, if_pos rfl]; simp
        | succ k =>
          have := e4 k (by omega)
          rw [show ln + 1 + k = ln + (k + 1) by omega] at this
          rw [this, List.getD_cons_succ]
      · intro k hk; rw [e5 k (by omega), o9, if_neg (by omega)]
      · intro b g1 g2; rw [e6 b g1 g2, o1 b g1 g2]
    · rw [if_neg g]
      have ha : a = m := by omega
      subst ha
      obtain ⟨M1, hM1⟩ : ∃ M1, M1 = bw_up M 9 ln (nI a) := ⟨_, rfl⟩
      refine ⟨M1, ?_, ?_, ?_, ?_, ?_, ?_⟩
      · rw [f_X2_settle_L18]
        by_cases g24 : 24 ≤ ln
        · rw [l_24, if_pos (nI_le g24 (by omega)), h6, z_ib (by omega) (by omega), if_pos rfl, nI_clamp (by omega), h7, z_ml, hM1]
        · rw [l_24, if_neg (nI_ge (by omega) (by omega)), h7, if_pos (nI_le (by omega) (by omega)), h6, z_ib (by omega) (by omega), if_pos rfl, nI_clamp (by omega), z_ml, hM1]
      · rw [hM1, z_up_k _ _ _ _ (by omega), h6]; simp
      · intro x _; rw [hM1, z_up_k _ _ _ _ (by omega)]
      · intro k hk
        simp only [List.length_nil] at hk
        rw [show k = 0 by omega, Nat.add_zero, hM1, z_up_s]; simp
      · intro k hk; rw [hM1, z_up_i _ _ _ _ (by omega)]
      · intro b _ g2; rw [hM1, z_up_k _ _ _ _ g2]
/-- the class's settle -/
theorem z_cSe {M : Mem} (hbd : z_Bd m W pl c h t d A) (hp : z_Pl m W pl c h t d A lw M) {T : (Nat → Option Nat) × (Nat → Nat)} (hT : T = z_out m W h t d (z_sf A c) (z_P lw pl) m) {S : List Nat} (hS : S = z_st T.2 m (m + 1) 0) : ∃ M', f_X2_settle M = some ((if T.1 0 = none then 0 else 1), M') ∧ z_Pl m W pl c h t d A lw M' ∧ z_Cf M M' ∧ M' 7 0 = z_oI (T.1 0) ∧ (T.1 0 ≠ none → M' 1 14 = nI S.length ∧ ∀ k, k ≤ S.length → M' 9 k = nI (S.getD k m)) ∧ (T.1 0 = none → M' 1 14 = 0) ∧ ∀ k, 1 ≤ k → k ≤ 24 → k ≠ 1 → k ≠ 6 → k ≠ 7 → k ≠ 8 → k ≠ 9 → M' k = M k := by
  have hbd' := hbd
  obtain ⟨b1, b2, b3, b4, b5, b6⟩ := hbd
  have hfu : 100 < bw_fu := by decide
  have o1 : ∀ b, b ≠ 1 → bw_up M 1 14 0 b = M b := fun b hb => z_up_k _ _ _ _ hb
  have c1 : z_Cf M (bw_up M 1 14 0) := z_Cf_up (by omega)
  have p1 : z_Pl m W pl c h t d A lw (bw_up M 1 14 0) := z_Pl_fr c1 (fun x _ => by rw [z_up_i _ _ _ _ (by omega)]) (fun k g1 g2 => o1 k (by omega)) (by rw [o1 6 (by omega)]; exact hp.2.2.2.2.2.2.2) hp
  obtain ⟨M1, f1, f2, f3, f4, f5, f6⟩ := z_cLst (lw := lw) hbd' p1
  rw [← hT] at f1 f4 f5
  have m1 : M1 1 = bw_up M 1 14 0 1 := f6 1 (by omega) (by omega) (by omega) (by omega) (by omega)
  have q70 : M1 7 0 = z_oI (T.1 0) := f4 0 (by omega)
  cases hq : T.1 0 with
  | none =>
    rw [hq] at f1 q70
    refine ⟨M1, ?_, f2, z_Cf_t c1 f3, q70, fun hn => absurd rfl hn, fun _ => by rw [m1, z_up_s], ?_⟩
    · unfold f_X2_settle
      rw [z_ml, f1, Option.bind_some, if_neg (show ¬ (0 : Int32) ≤ -1000000005 by decide), if_pos rfl]
    · intro k g1 g2 g3 g4 g5 g6 g7; rw [f6 k g1 g2 g4 g5 g6, o1 k g3]
  | some q =>
    rw [hq] at f1 q70
    have hP : ∀ a b, a ≤ 99 → z_P lw pl a b ≤ 9999 := fun a b ha => z_P_le b3 ha
    have hsf : ∀ a, a ≤ 99 → z_sf A c a ≤ 99 := fun a ha => z_sf_le (fun k hk => (b6 k hk).2) ha
    have hB := z_outB m W h t d (z_sf A c) (z_P lw pl) hP hsf (fun j hj => (b5 j hj).2.1) m (by omega) 0 q (by rw [← hT]; exact hq)
    have hN : ∀ j q, j < m → T.1 j = some q → j < T.2 j ∧ T.2 j ≤ m ∧ ∃ q', T.1 (T.2 j) = some q' := by
      rw [hT]; exact z_outS m W h t d (z_sf A c) (z_P lw pl) m (by omega)
    obtain ⟨M2, e1, e2, e3, e4, e5, e6⟩ := z_cSt (L := T.1) b1 hN (m + 1) 0 0 bw_fu M1 (by omega) (by omega) (by omega) (by omega) ⟨q, hq⟩ (by rw [m1, z_up_s]; rfl) f2.1 f5
    rw [← hS] at e2 e4
    have c2 : z_Cf M1 M2 := z_Cf_b (fun b hb => e6 b (by omega) (by omega))
    refine ⟨M2, ?_, ?_, z_Cf_t c1 (z_Cf_t f3 c2), ?_, fun _ => ⟨?_, ?_⟩, fun hn => by simp at hn, ?_⟩
    · unfold f_X2_settle
      rw [z_ml, f1, Option.bind_some]
      rw [if_pos (show 0 ≤ nI q from nI_pos' (by omega)), if_neg (by simp), l_0]
      exact e1
    · exact z_Pl_fr c2 (fun x hx => e3 x (by omega)) (fun k g1 g2 => e6 k (by omega) (by omega)) (by rw [e6 6 (by omega) (by omega)]; exact f2.2.2.2.2.2.2.2) f2
    · rw [e6 7 (by omega) (by omega), q70]
    · rw [e2, Nat.zero_add]
    · intro k hk; have := e4 k hk; rw [Nat.zero_add] at this; exact this
    · intro k g1 g2 g3 g4 g5 g6 g7; rw [e6 k g3 g7, f6 k g1 g2 g4 g5 g6, o1 k g3]
end
