/-! level 2: the model's parts, lines; both begin -/
section
variable {m W pl c : Nat} {h t d A : Nat → Nat} {lw : Option TU} {q0 : Nat}
theorem z_mOut (hbd : z_Bd m W pl c h t d A) : ∀ i k fu M, i + k = m → i < fu → z_Mp m W pl c h t d A lw q0 M → (∀ j, i ≤ j → j ≤ m → M 103 j = z_oI ((z_out m W h t d (z_sf A c) (z_P lw pl) k).1 j)) → (∀ j, i ≤ j → j < m → (z_out m W h t d (z_sf A c) (z_P lw pl) k).1 j ≠ none → M 104 j = nI ((z_out m W h t d (z_sf A c) (z_P lw pl) k).2 j - j)) → ∃ M', f_X10_parts_L17 fu (nI i - 1) M = some (z_oI ((z_out m W h t d (z_sf A c) (z_P lw pl) m).1 0), M') ∧ z_Mp m W pl c h t d A lw q0 M' ∧ z_Mf M M' ∧ (∀ j, j < m → (z_out m W h t d (z_sf A c) (z_P lw pl) m).1 j ≠ none → M' 104 j = nI ((z_out m W h t d (z_sf A c) (z_P lw pl) m).2 j - j)) ∧ M' 93 = M 93 ∧ ∀ k, 96 ≤ k → k ≤ 119 → k ≠ 101 → k ≠ 102 → k ≠ 103 → k ≠ 104 → k ≠ 116 → k ≠ 117 → M' k = M k := by
  have hbd' := hbd
  obtain ⟨b1, b2, b3, b4, b5, b6⟩ := hbd
  have hfu : 100 < bw_fu := by decide
  have hP : ∀ a b, a ≤ 99 → z_P lw pl a b ≤ 9999 := fun a b ha => z_P_le b3 ha
  have hsf : ∀ a, a ≤ 99 → z_sf A c a ≤ 99 := fun a ha => z_sf_le (fun k hk => (b6 k hk).2) ha
  have hB := z_outB m W h t d (z_sf A c) (z_P lw pl) hP hsf (fun j hj => (b5 j hj).2.1)
  intro i
  induction i with
  | zero =>
    intro k fu M h1 h2 hp h7 h8
    obtain ⟨fu, rfl⟩ : ∃ f, fu = f + 1 := ⟨fu - 1, by omega⟩
    have hk : k = m := by omega
    subst hk
    refine ⟨M, ?_, hp, z_Mf_r M, fun j hj => h8 j (by omega) hj, rfl, fun _ _ _ _ _ _ _ _ _ => rfl⟩
    rw [f_X10_parts_L17, if_pos (by decide), show ((0 : Int32).toNatClampNeg) = 0 from rfl, h7 0 (by omega) (by omega)]
  | succ i ih =>
    intro k fu M h1 h2 hp h7 h8
    obtain ⟨fu, rfl⟩ : ∃ f, fu = f + 1 := ⟨fu - 1, by omega⟩
    have ik : i = m - 1 - k := by omega
    obtain ⟨M1, hM1⟩ : ∃ M1, M1 = bw_up M 103 i (-1) := ⟨_, rfl⟩
    have o1 : ∀ b, b ≠ 103 → M1 b = M b := by intro b g1; rw [hM1, z_up_k _ _ _ _ g1]
    have c1 : z_Mf M M1 := by rw [hM1]; exact z_Mf_up (by omega)
    have p1 : z_Mp m W pl c h t d A lw q0 M1 := z_Mp_fr (o1 94 (by omega)) (by rw [o1 93 (by omega)]; exact ⟨rfl, rfl, rfl, rfl⟩) (fun k g1 g2 => o1 k (by omega)) hp
    have a7 : ∀ k, M1 103 k = if k = i then -1 else M 103 k := by
      intro k; rw [hM1, z_up]; by_cases e : k = i <;> simp [e]
    obtain ⟨M2, e1, e2, e3, e4, e5, e6, e8, e7⟩ := z_mIn (lw := lw) (q0 := q0) hbd' (z_out m W h t d (z_sf A c) (z_P lw pl) k).1 i (by omega) (fun k' q _ hq => hB k (by omega) k' q hq) (k + 1) i bw_fu 0 0 M1 none m p1 (by omega) (by omega) (by omega) (by omega) (by omega) (by rw [a7, if_pos rfl]; rfl) (by intro hn; exact absurd rfl hn) (by intro k' g1 g2; rw [a7, if_neg (by omega)]; exact h7 k' (by omega) g2) (by intro q hq; simp at hq)
    obtain ⟨M', f1, f2, f3, f4, f5, f6⟩ := ih (k + 1) fu M2 (by omega) (by omega) e2 (by
      intro j g1 g2
      by_cases g : j = i
      · rw [g, e4, z_out]; simp only; rw [if_pos ik, ← ik]
      · rw [(e6 j g).1, a7, if_neg g, (z_outK m W h t d (z_sf A c) (z_P lw pl) k j (by omega)).1]; exact h7 j (by omega) g2) (by
      intro j g1 g2 g3
      by_cases g : j = i
      · have r1 : (z_out m W h t d (z_sf A c) (z_P lw pl) (k + 1)).1 i = (z_i1 m W h t d (z_sf A c) (z_P lw pl) (z_out m W h t d (z_sf A c) (z_P lw pl) k).1 i (k + 1) i 0 0 none m).1 := by rw [z_out]; simp only; rw [if_pos ik, ← ik]
        have r2 : (z_out m W h t d (z_sf A c) (z_P lw pl) (k + 1)).2 i = (z_i1 m W h t d (z_sf A c) (z_P lw pl) (z_out m W h t d (z_sf A c) (z_P lw pl) k).1 i (k + 1) i 0 0 none m).2 := by rw [z_out]; simp only; rw [if_pos ik, ← ik]
        rw [g] at g3 ⊢
        rw [r1] at g3
        rw [r2]; exact e5 g3
      · rw [(z_outK m W h t d (z_sf A c) (z_P lw pl) k j (by omega)).1] at g3
        rw [(e6 j g).2, o1 104 (by omega), (z_outK m W h t d (z_sf A c) (z_P lw pl) k j (by omega)).2]; exact h8 j (by omega) g2 g3)
    refine ⟨M', ?_, f2, z_Mf_t c1 (z_Mf_t e3 f3), f4, by rw [f5, e8, o1 93 (by omega)], ?_⟩
    · rw [f_X10_parts_L17, nI_pred, if_neg (nI_pos (by omega)), z_ib (by omega) (by omega), if_pos rfl, nI_clamp (by omega), z_ml, ← hM1]
      have e1' : f_X10_parts_L35 (nI i) bw_fu 0 0 (nI i) M1 = some M2 := e1
      rw [e1', Option.bind_some, f1]
    · intro k' g1 g2 g3 g4 g5 g6 g7 g8
      rw [f6 k' g1 g2 g3 g4 g5 g6 g7 g8, e7 k' g1 g2 g3 g4 g5 g6 g7 g8, o1 k' g5]
theorem z_mLst {M : Mem} (hbd : z_Bd m W pl c h t d A) (hp : z_Mp m W pl c h t d A lw q0 M) : ∃ M', f_X10_parts M = some (z_oI ((z_out m W h t d (z_sf A c) (z_P lw pl) m).1 0), M') ∧ z_Mp m W pl c h t d A lw q0 M' ∧ z_Mf M M' ∧ (∀ j, j < m → (z_out m W h t d (z_sf A c) (z_P lw pl) m).1 j ≠ none → M' 104 j = nI ((z_out m W h t d (z_sf A c) (z_P lw pl) m).2 j - j)) ∧ M' 93 = M 93 ∧ ∀ k, 96 ≤ k → k ≤ 119 → k ≠ 101 → k ≠ 102 → k ≠ 103 → k ≠ 104 → k ≠ 116 → k ≠ 117 → M' k = M k := by
  have hbd' := hbd
  obtain ⟨b1, b2, b3, b4, b5, b6⟩ := hbd
  have hfu : 100 < bw_fu := by decide
  have o1 : ∀ b, b ≠ 103 → bw_up M 103 m (nI 0) b = M b := fun b hb => z_up_k _ _ _ _ hb
  have c1 : z_Mf M (bw_up M 103 m (nI 0)) := z_Mf_up (by omega)
  have p1 : z_Mp m W pl c h t d A lw q0 (bw_up M 103 m (nI 0)) := z_Mp_fr (o1 94 (by omega)) (by rw [o1 93 (by omega)]; exact ⟨rfl, rfl, rfl, rfl⟩) (fun k g1 g2 => o1 k (by omega)) hp
  obtain ⟨M', f1, f2, f3, f4, f5, f6⟩ := z_mOut (lw := lw) (q0 := q0) hbd' m 0 bw_fu _ (by omega) (by omega) p1 (by
    intro j g1 g2
    rw [show j = m by omega, z_up_s, z_out]; simp only [if_true]; rfl) (by intro j g1 g2; omega)
  refine ⟨M', ?_, f2, z_Mf_t c1 f3, f4, by rw [f5, o1 93 (by omega)], ?_⟩
  · unfold f_X10_parts
    rw [hp.1, z_ib (by omega) (by omega), if_pos rfl, nI_clamp (by omega), z_ml, l_0, o1 93 (by omega), hp.1]
    exact f1
  · intro k g1 g2 g3 g4 g5 g6 g7 g8; rw [f6 k g1 g2 g3 g4 g5 g6 g7 g8, o1 k g5]
theorem z_mTi {a n : Nat} (ha : a + n ≤ 24) : ∀ r k fu M, k + r = n → r < fu → M 104 a = nI n → ∃ M', f_X10_tellsLines_L34 (nI a) fu (nI k) M = some M' ∧ (∀ j, M' 106 j = if a + k ≤ j ∧ j < a + n then M 93 17 else M 106 j) ∧ ∀ b, b ≠ 106 → M' b = M b := by
  intro r
  induction r with
  | zero =>
    intro k fu M h1 h2 h3
    obtain ⟨fu, rfl⟩ : ∃ f, fu = f + 1 := ⟨fu - 1, by omega⟩
    refine ⟨M, ?_, fun j => by rw [if_neg (by omega)], fun _ _ => rfl⟩
    rw [f_X10_tellsLines_L34, z_ib (by omega) (by omega), if_pos rfl, nI_clamp (by omega), h3, if_pos (nI_le (by omega) (by omega))]
  | succ r ih =>
    intro k fu M h1 h2 h3
    obtain ⟨fu, rfl⟩ : ∃ f, fu = f + 1 := ⟨fu - 1, by omega⟩
    obtain ⟨M', e1, e2, e3⟩ := ih (k + 1) fu (bw_up M 106 (a + k) (M 93 17)) (by omega) (by omega) (by rw [z_up_k _ _ _ _ (by omega)]; exact h3)
    refine ⟨M', ?_, ?_, ?_⟩
    · rw [f_X10_tellsLines_L34, z_ib (by omega) (by omega), if_pos rfl, nI_clamp (by omega), h3, if_neg (nI_ge (by omega) (by omega)), nI_add, z_ib (by omega) (by omega), if_pos rfl, nI_clamp (by omega), z_ml, nI_1, e1]
    · intro j
      rw [e2 j, z_up_k _ _ _ _ (show 93 ≠ 106 by omega)]
      by_cases g : j = a + k
      · subst g; rw [if_neg (by omega), if_pos (by omega), z_up_s]
      · rw [z_up_i _ _ _ _ g]
        by_cases g2 : a + (k + 1) ≤ j ∧ j < a + n
        · rw [if_pos g2, if_pos (by omega)]
        · rw [if_neg g2, if_neg (by omega)]
    · intro b hb; rw [e3 b hb, z_up_k _ _ _ _ hb]
theorem z_mTl {N : Nat → Nat} {L : Nat → Option Nat} (hm : m ≤ 24) (hN : ∀ j q, j < m → L j = some q → j < N j ∧ N j ≤ m ∧ ∃ q', L (N j) = some q') : ∀ f a ln fu M, m - a < f → m - a < fu → ln ≤ a → a ≤ m → (∃ q, L a = some q) → ¬ M 93 16 < 0 → M 93 17 = nI ln → M 93 7 = nI m → (∀ j, j < m → L j ≠ none → M 104 j = nI (N j - j)) → ∃ M', f_X10_tellsLines_L7 fu (nI a) M = some M' ∧ M' 93 17 = nI (ln + (z_st N m f a).length) ∧ (∀ x, x ≠ 17 → M' 93 x = M 93 x) ∧ (∀ k, k ≤ (z_st N m f a).length → M' 105 (ln + k) = nI ((z_st N m f a).getD k m)) ∧ (∀ k, k < ln → M' 105 k = M 105 k) ∧ (∀ k, k < (z_st N m f a).length → ∀ b, (z_st N m f a).getD k m ≤ b → b < (z_st N m f a).getD (k + 1) m → M' 106 b = nI (ln + k)) ∧ (∀ b, b < a → M' 106 b = M 106 b) ∧ ∀ b, b ≠ 93 → b ≠ 105 → b ≠ 106 → M' b = M b := by
  have hfu : 100 < bw_fu := by decide
  intro f
  induction f with
  | zero => intro a ln fu M h1; omega
  | succ f ih =>
    intro a ln fu M h1 h2 h3 h4 h5 h16 h6 h7 h8
    obtain ⟨fu, rfl⟩ : ∃ f, fu = f + 1 := ⟨fu - 1, by omega⟩
    rw [z_st]
    by_cases g : a < m
    · rw [if_pos g]
      obtain ⟨q, hq⟩ := h5
      obtain ⟨n1, n2, n3⟩ := hN a q g hq
      have h8a := h8 a g (by rw [hq]; simp)
      obtain ⟨M0, t1, t2, t3⟩ := z_mTi (a := a) (n := N a - a) (by omega) (N a - a) 0 bw_fu (bw_up M 105 ln (nI a)) (by omega) (by omega) (by rw [z_up_k _ _ _ _ (by omega)]; exact h8a)
      rw [z_up_k _ _ _ _ (show 93 ≠ 105 by omega), h6] at t2
      obtain ⟨M1, hM1⟩ : ∃ M1, M1 = bw_up M0 93 17 (nI (ln + 1)) := ⟨_, rfl⟩
      have o0 : ∀ b, b ≠ 105 → b ≠ 106 → M0 b = M b := by intro b g1 g2; rw [t3 b g2, z_up_k _ _ _ _ g1]
      have o1 : ∀ b, b ≠ 93 → b ≠ 105 → b ≠ 106 → M1 b = M b := by intro b g1 g2 g3; rw [hM1, z_up_k _ _ _ _ g1, o0 b g2 g3]
      have o93 : ∀ x, x ≠ 17 → M1 93 x = M 93 x := by intro x hx; rw [hM1, z_up_i _ _ _ _ hx, o0 93 (by omega) (by omega)]
      have o105 : ∀ k, M1 105 k = if k = ln then nI a else M 105 k := by
        intro k; rw [hM1, z_up_k _ _ _ _ (by omega), t3 105 (by omega), z_up]; by_cases e : k = ln <;> simp [e]
      have o106 : ∀ j, M1 106 j = if a ≤ j ∧ j < N a then nI ln else M 106 j := by
        intro j; rw [hM1, z_up_k _ _ _ _ (by omega), t2 j, z_up_k _ _ _ _ (by omega)]
        by_cases e : a ≤ j ∧ j < N a
        · rw [if_pos e, if_pos (by omega)]
        · rw [if_neg e, if_neg (by omega)]
      obtain ⟨M', e1, e2, e3, e4, e5, e6, e7, e8⟩ := ih (N a) (ln + 1) fu M1 (by omega) (by omega) (by omega) n2 n3 (by rw [o93 16 (by omega)]; exact h16) (by rw [hM1, z_up_s]) (by rw [o93 7 (by omega)]; exact h7) (by intro j hj hn; rw [o1 104 (by omega) (by omega) (by omega)]; exact h8 j hj hn)
      refine ⟨M', ?_, ?_, ?_, ?_, ?_, ?_, ?_, ?_⟩
      · rw [f_X10_tellsLines_L7, if_neg h16, h7, if_neg (nI_ge (by omega) (by omega)), h6, z_ib (by omega) (by omega), if_pos rfl, nI_clamp (by omega), z_ml]
        have t1' : f_X10_tellsLines_L34 (nI a) bw_fu 0 (bw_up M 105 ln (nI a)) = some M0 := t1
        rw [t1', Option.bind_some, z_ib (by omega) (by omega), if_pos rfl, nI_clamp (by omega), o0 104 (by omega) (by omega), h8a, nI_add, z_ml, z_ml, show a + (N a - a) = N a by omega, o0 93 (by omega) (by omega), h6, nI_1, ← hM1]
        exact e1
      · rw [e2]; simp only [List.length_cons]; congr 1; omega
      · intro x hx; rw [e3 x hx, o93 x hx]
      · intro k hk
        simp only [List.length_cons] at hk
        cases k with
        | zero => rw [Nat.add_zero, e5 ln (by omega), o105, if_pos rfl]; simp
        | succ k =>
          have := e4 k (by omega)
          rw [show ln + 1 + k = ln + (k + 1) by omega] at this
          rw [this, List.getD_cons_succ]
      · intro k hk; rw [e5 k (by omega), o105, if_neg (by omega)]
      · intro k hk b g1 g2
        simp only [List.length_cons] at hk
        cases k with
        | zero =>
          rw [List.getD_cons_zero] at g1
          rw [List.getD_cons_succ, (z_st_f hN f (N a) (by omega) n2 n3).2.1] at g2
          rw [e7 b g2, o106, if_pos ⟨g1, g2⟩, Nat.add_zero]
        | succ k =>
          rw [List.getD_cons_succ] at g1 g2
          rw [e6 k (by omega) b g1 g2]; congr 1; omega
      · intro b hb; rw [e7 b (by omega), o106, if_neg (by omega)]
      · intro b g1 g2 g3; rw [e8 b g1 g2 g3, o1 b g1 g2 g3]
    · rw [if_neg g]
      have ha : a = m := by omega
      subst ha
      obtain ⟨M1, hM1⟩ : ∃ M1, M1 = bw_up M 105 ln (nI a) := ⟨_, rfl⟩
      refine ⟨M1, ?_, ?_, ?_, ?_, ?_, ?_, ?_, ?_⟩
      · rw [f_X10_tellsLines_L7, if_neg h16, h7, if_pos (nI_le (by omega) (by omega)), h6, z_ib (by omega) (by omega), if_pos rfl, nI_clamp (by omega), z_ml, hM1]
      · rw [hM1, z_up_k _ _ _ _ (by omega), h6]; simp
      · intro x _; rw [hM1, z_up_k _ _ _ _ (by omega)]
      · intro k hk
        simp only [List.length_nil] at hk
        rw [show k = 0 by omega, Nat.add_zero, hM1, z_up_s]; simp
      · intro k hk; rw [hM1, z_up_i _ _ _ _ (by omega)]
      · intro k hk; simp at hk
      · intro b _; rw [hM1, z_up_k _ _ _ _ (by omega)]
      · intro b _ g2 _; rw [hM1, z_up_k _ _ _ _ g2]
/-- the model's parts and lines, once the books are taken -/
theorem z_mSe {M : Mem} (hbd : z_Bd m W pl c h t d A) (hp : z_Mp m W pl c h t d A lw q0 M) {T : (Nat → Option Nat) × (Nat → Nat)} (hT : T = z_out m W h t d (z_sf A c) (z_P lw pl) m) {S : List Nat} (hS : S = z_st T.2 m (m + 1) 0) : ∃ M1 M', f_X10_parts M = some (z_oI (T.1 0), M1) ∧ f_X10_tellsLines (bw_up M1 93 16 (z_oI (T.1 0))) = some M' ∧ z_Mp m W pl c h t d A lw q0 M' ∧ z_Mf M M' ∧ M' 93 16 = z_oI (T.1 0) ∧ (T.1 0 ≠ none → M' 93 17 = nI S.length ∧ (∀ k, k ≤ S.length → M' 105 k = nI (S.getD k m)) ∧ ∀ k, k < S.length → ∀ b, S.getD k m ≤ b → b < S.getD (k + 1) m → M' 106 b = nI k) ∧ (T.1 0 = none → M' 93 17 = 0) ∧ (∀ x, x ≠ 16 → x ≠ 17 → M' 93 x = M 93 x) ∧ ∀ k, 96 ≤ k → k ≤ 119 → k ≠ 101 → k ≠ 102 → k ≠ 103 → k ≠ 104 → k ≠ 105 → k ≠ 106 → k ≠ 116 → k ≠ 117 → M' k = M k := by
  have hbd' := hbd
  obtain ⟨b1, b2, b3, b4, b5, b6⟩ := hbd
  have hfu : 100 < bw_fu := by decide
  obtain ⟨M1, f1, f2, f3, f4, f5, f6⟩ := z_mLst (lw := lw) (q0 := q0) hbd' hp
  rw [← hT] at f1 f4
  obtain ⟨M2, hM2⟩ : ∃ M2, M2 = bw_up (bw_up M1 93 16 (z_oI (T.1 0))) 93 17 0 := ⟨_, rfl⟩
  have o2 : ∀ b, b ≠ 93 → M2 b = M1 b := by intro b g1; rw [hM2, z_up_k _ _ _ _ g1, z_up_k _ _ _ _ g1]
  have o93 : ∀ x, x ≠ 16 → x ≠ 17 → M2 93 x = M 93 x := by intro x g1 g2; rw [hM2, z_up_i _ _ _ _ g2, z_up_i _ _ _ _ g1, f5]
  have c2 : z_Mf M1 M2 := by rw [hM2]; exact z_Mf_t (z_Mf_93 (by omega)) (z_Mf_93 (by omega))
  have v16 : M2 93 16 = z_oI (T.1 0) := by rw [hM2, z_up_i _ _ _ _ (by omega), z_up_s]
  have v17 : M2 93 17 = nI 0 := by rw [hM2, z_up_s]; rfl
  cases hq : T.1 0 with
  | none =>
    rw [hq] at f1 v16
    refine ⟨M1, bw_up M2 105 0 0, f1, ?_, ?_, z_Mf_t f3 (z_Mf_t c2 (z_Mf_up (by omega))), ?_, fun hn => absurd rfl hn, ?_, ?_, ?_⟩
    · unfold f_X10_tellsLines
      rw [hq] at hM2
      rw [z_ml, ← hM2, show bw_fu = 1999 + 1 from rfl, f_X10_tellsLines_L7, if_pos (by rw [v16]; decide), v17, z_ib (by omega) (by omega), if_pos rfl, nI_clamp (by omega), z_ml]
    · exact z_Mp_fr (by rw [z_up_k _ _ _ _ (by omega), o2 94 (by omega)]) (by rw [z_up_k _ _ _ _ (by omega), o93 7 (by omega) (by omega), o93 8 (by omega) (by omega), o93 10 (by omega) (by omega), o93 13 (by omega) (by omega), f5]; exact ⟨rfl, rfl, rfl, rfl⟩) (fun k g1 g2 => by rw [z_up_k _ _ _ _ (by omega), o2 k (by omega)]) f2
    · rw [z_up_k _ _ _ _ (by omega), v16]
    · intro _; rw [z_up_k _ _ _ _ (by omega), v17]; rfl
    · intro x g1 g2; rw [z_up_k _ _ _ _ (by omega), o93 x g1 g2]
    · intro k g1 g2 g3 g4 g5 g6 g7 g8 g9 g10; rw [z_up_k _ _ _ _ g7, o2 k (by omega), f6 k g1 g2 g3 g4 g5 g6 g9 g10]
  | some q =>
    have hP : ∀ a b, a ≤ 99 → z_P lw pl a b ≤ 9999 := fun a b ha => z_P_le b3 ha
    have hsf : ∀ a, a ≤ 99 → z_sf A c a ≤ 99 := fun a ha => z_sf_le (fun k hk => (b6 k hk).2) ha
    have hB := z_outB m W h t d (z_sf A c) (z_P lw pl) hP hsf (fun j hj => (b5 j hj).2.1) m (by omega) 0 q (by rw [← hT]; exact hq)
    have hN : ∀ j q, j < m → T.1 j = some q → j < T.2 j ∧ T.2 j ≤ m ∧ ∃ q', T.1 (T.2 j) = some q' := by
      rw [hT]; exact z_outS m W h t d (z_sf A c) (z_P lw pl) m (by omega)
    have n16 : ¬ M2 93 16 < 0 := by rw [v16, hq]; exact nI_pos (by omega)
    obtain ⟨M3, e1, e2, e3, e4, e5, e6, e7, e8⟩ := z_mTl (L := T.1) b1 hN (m + 1) 0 0 bw_fu M2 (by omega) (by omega) (by omega) (by omega) ⟨q, hq⟩ n16 v17 (by rw [o93 7 (by omega) (by omega)]; exact hp.1) (by intro j hj hn; rw [o2 104 (by omega)]; exact f4 j hj hn)
    rw [← hS] at e2 e4 e6
    rw [hq] at f1
    refine ⟨M1, M3, f1, ?_, ?_, ?_, ?_, fun _ => ⟨?_, ?_, ?_⟩, fun hn => by simp at hn, ?_, ?_⟩
    · unfold f_X10_tellsLines
      rw [hq] at hM2
      rw [z_ml, ← hM2, l_0]; exact e1
    · exact z_Mp_fr (by rw [e8 94 (by omega) (by omega) (by omega), o2 94 (by omega)]) (by rw [e3 7 (by omega), e3 8 (by omega), e3 10 (by omega), e3 13 (by omega), o93 7 (by omega) (by omega), o93 8 (by omega) (by omega), o93 10 (by omega) (by omega), o93 13 (by omega) (by omega), f5]; exact ⟨rfl, rfl, rfl, rfl⟩) (fun k g1 g2 => by rw [e8 k (by omega) (by omega) (by omega), o2 k (by omega)]) f2
    · refine z_Mf_t f3 (z_Mf_t c2 ⟨fun b hb => e8 b (by omega) (by omega) (by omega), e3 _ (by omega), e3 _ (by omega), e3 _ (by omega)⟩)
    · rw [e3 16 (by omega), v16, hq]
    · rw [e2, Nat.zero_add]
    · intro k hk; have := e4 k hk; rw [Nat.zero_add] at this; exact this
    · intro k hk b g1 g2; have := e6 k hk b g1 g2; rw [Nat.zero_add] at this; exact this
    · intro x g1 g2; rw [e3 x g2, o93 x g1 g2]
    · intro k g1 g2 g3 g4 g5 g6 g7 g8 g9 g10; rw [e8 k (by omega) g7 g8, o2 k (by omega), f6 k g1 g2 g3 g4 g5 g6 g9 g10]
end
