/-! level 2: count; the heights that there are -/
theorem z_any_ex {p : Nat → Bool} : ∀ r i, z_any p r i = true ↔ ∃ k, i ≤ k ∧ k < i + r ∧ p k = true := by
  intro r
  induction r with
  | zero => intro i; simp only [z_any]; exact ⟨fun h => by simp at h, fun ⟨k, h1, h2, _⟩ => by omega⟩
  | succ r ih =>
    intro i
    simp only [z_any, Bool.or_eq_true, ih (i + 1)]
    constructor
    · rintro (h | ⟨k, h1, h2, h3⟩)
      · exact ⟨i, by omega, by omega, h⟩
      · exact ⟨k, by omega, by omega, h3⟩
    · rintro ⟨k, h1, h2, h3⟩
      by_cases g : k = i
      · subst g; exact Or.inl h3
      · exact Or.inr ⟨k, by omega, by omega, h3⟩
def z_ul (p : Nat → Bool) : Nat → Nat → List Nat
  | 0, _ => []
  | r + 1, h => if p h = true then h :: z_ul p r (h + 1) else z_ul p r (h + 1)
theorem z_ul_or {p q : Nat → Bool} {x : Nat} (h : ∀ k, k ≠ x → q k = true → p k = true) : ∀ r i, (z_ul q r i).length ≤ (z_ul p r i).length + (if i ≤ x ∧ x < i + r then 1 else 0) := by
  intro r
  induction r with
  | zero => intro i; simp [z_ul]
  | succ r ih =>
    intro i
    have := ih (i + 1)
    simp only [z_ul]
    by_cases g : i = x
    · subst g
      rw [if_pos (show i ≤ i ∧ i < i + (r + 1) by omega)]
      rw [if_neg (show ¬ (i + 1 ≤ i ∧ i < i + 1 + r) by omega)] at this
      split <;> split <;> simp <;> omega
    · by_cases g2 : q i = true
      · rw [if_pos g2, if_pos (h i g g2)]
        simp only [List.length_cons]
        by_cases g3 : i + 1 ≤ x ∧ x < i + 1 + r
        · rw [if_pos g3] at this; rw [if_pos (by omega)]; omega
        · rw [if_neg g3] at this; rw [if_neg (by omega)]; omega
      · rw [if_neg g2]
        have : (z_ul q r (i + 1)).length ≤ (z_ul p r (i + 1)).length + (if i ≤ x ∧ x < i + (r + 1) then 1 else 0) := by
          by_cases g3 : i + 1 ≤ x ∧ x < i + 1 + r
          · rw [if_pos g3] at this; rw [if_pos (by omega)]; omega
          · rw [if_neg g3] at this; rw [if_neg (by omega)]; omega
        split <;> simp <;> omega
theorem z_ul_fa {p : Nat → Bool} (h : ∀ k, p k = false) : ∀ r i, z_ul p r i = [] := by
  intro r
  induction r with
  | zero => intro i; rfl
  | succ r ih => intro i; simp only [z_ul, h i]; rw [if_neg (by decide)]; exact ih _
def z_has (s : Nat → Nat) (c : Nat) : Nat → Bool := fun h => z_any (fun k => decide (s (14 + 4 * k) = h)) c 0
theorem z_ul_len (s : Nat → Nat) : ∀ c r i, (z_ul (z_has s c) r i).length ≤ c := by
  intro c
  induction c with
  | zero => intro r i; rw [z_ul_fa (p := z_has s 0) (fun k => rfl)]; simp
  | succ c ih =>
    intro r i
    have := z_ul_or (p := z_has s c) (q := z_has s (c + 1)) (x := s (14 + 4 * c)) (by
      intro k hk h
      unfold z_has at h ⊢
      rw [z_any_ex] at h ⊢
      obtain ⟨j, h1, h2, h3⟩ := h
      by_cases g : j = c
      · subst g; simp at h3; omega
      · exact ⟨j, h1, by omega, h3⟩) r i
    have i2 := ih r i
    split at this <;> omega
theorem z_cHas {M : Mem} {S c : Nat} {s : Nat → Nat} {h : Nat} (hh : h < 100) (h0 : M S 0 = nI c) (hc : c ≤ 24) (hB : ∀ i, i < c → M (S + 1) i = nI (s (14 + 4 * i)) ∧ s (14 + 4 * i) ≤ 99) : ∀ r i fu, i + r = c → r < fu → f_X6_hasHeight_L2 M S (nI h) fu (nI i) = some (if z_any (fun k => decide (s (14 + 4 * k) = h)) r i = true then 1 else 0) := by
  intro r
  induction r with
  | zero =>
    intro i fu h1 h2
    obtain ⟨fu, rfl⟩ : ∃ f, fu = f + 1 := ⟨fu - 1, by omega⟩
    rw [f_X6_hasHeight_L2, h0, if_pos (nI_le (by omega) (by omega))]; rfl
  | succ r ih =>
    intro i fu h1 h2
    obtain ⟨fu, rfl⟩ : ∃ f, fu = f + 1 := ⟨fu - 1, by omega⟩
    obtain ⟨b1, b2⟩ := hB i (by omega)
    rw [f_X6_hasHeight_L2, h0, if_neg (nI_ge (by omega) (by omega)), z_ib (by omega) (by omega), if_pos rfl, nI_clamp (by omega), b1, z_any]
    by_cases e : s (14 + 4 * i) = h
    · rw [if_pos (congrArg nI e)]; simp [e]
    · rw [if_neg (z_neI e (by omega) (by omega)), nI_1, ih (i + 1) fu (by omega) (by omega)]; simp [e]
theorem z_hasE {M : Mem} {S : Nat} {s : Nat → Nat} {h : Nat} (hh : h < 100) (h0 : M S 0 = nI (s 4)) (hc : s 4 ≤ 24) (hB : ∀ i, i < s 4 → M (S + 1) i = nI (s (14 + 4 * i)) ∧ s (14 + 4 * i) ≤ 99) : f_X6_hasHeight M S (nI h) = some (if z_has s (s 4) h = true then 1 else 0) := by
  unfold f_X6_hasHeight
  exact z_cHas hh h0 hc hB (s 4) 0 bw_fu (by omega) (by have : 30 < bw_fu := by decide
                                                        omega)
theorem z_mHas {M : Mem} {s : Nat → Nat} {h : Nat} (hh : h < 100) (hM : z_MR M 94 s) (hc : s 4 ≤ 24) (hB : ∀ i, i < s 4 → s (14 + 4 * i) ≤ 99) : ∀ r i fu (f : Bool), i + r = s 4 → r < fu → f_X10_findUnlike_L17 M (nI h) fu (if f = true then 1 else 0) (nI i) = some (if (f || z_any (fun k => decide (s (14 + 4 * k) = h)) r i) = true then 1 else 0) := by
  intro r
  induction r with
  | zero =>
    intro i fu f h1 h2
    obtain ⟨fu, rfl⟩ : ∃ f, fu = f + 1 := ⟨fu - 1, by omega⟩
    rw [f_X10_findUnlike_L17, z_c4, hM 4 (by omega) (by omega), if_pos (nI_le (by omega) (by omega))]; simp [z_any]
  | succ r ih =>
    intro i fu f h1 h2
    obtain ⟨fu, rfl⟩ : ∃ f, fu = f + 1 := ⟨fu - 1, by omega⟩
    have b2 := hB i (by omega)
    have b0 : f_X10_book4 M (nI i) 0 = some (nI (s (14 + 4 * i))) := z_b4 hM (j := i) (w := 0) (by omega) (by omega)
    rw [f_X10_findUnlike_L17, z_c4, hM 4 (by omega) (by omega), if_neg (nI_ge (by omega) (by omega)), b0, Option.bind_some, z_ml, nI_1, z_any]
    have t := ih (i + 1) fu true (by omega) (by omega)
    have u := ih (i + 1) fu false (by omega) (by omega)
    rw [if_pos rfl] at t
    rw [if_neg (by decide)] at u
    cases f with
    | true =>
      rw [if_pos (show true = true from rfl), if_neg (show ¬ (1 : Int32) = 0 by decide), t]
      simp
    | false =>
      rw [if_neg (show ¬ false = true by decide), if_pos rfl]
      by_cases e : s (14 + 4 * i) = h
      · rw [if_pos (congrArg nI e), t]; simp [e]
      · rw [if_neg (z_neI e (by omega) (by omega)), u]; simp [e]
theorem z_cUl {M0 : Mem} {s : Nat → Nat} (h0 : M0 25 0 = nI (s 4)) (hc : s 4 ≤ 24) (hB : ∀ i, i < s 4 → M0 26 i = nI (s (14 + 4 * i)) ∧ s (14 + 4 * i) ≤ 99) : ∀ r h m fu (M : Mem), M 25 = M0 25 → M 26 = M0 26 → h + r = 100 → r < fu → m + (z_ul (z_has s (s 4)) r h).length ≤ 24 → ∃ M', f_X6_unlikeHeights_L4 25 fu (nI m) (nI h) M = some (nI (m + (z_ul (z_has s (s 4)) r h).length), M') ∧ (∀ k, k < (z_ul (z_has s (s 4)) r h).length → M' 21 (m + k) = nI ((z_ul (z_has s (s 4)) r h).getD k 0)) ∧ (∀ k, k < m → M' 21 k = M 21 k) ∧ ∀ b, b ≠ 21 → M' b = M b := by
  intro r
  induction r with
  | zero =>
    intro h m fu M g1 g2 h1 h2 h3
    obtain ⟨fu, rfl⟩ : ∃ f, fu = f + 1 := ⟨fu - 1, by omega⟩
    refine ⟨M, ?_, fun k hk => by simp [z_ul] at hk, fun _ _ => rfl, fun _ _ => rfl⟩
    rw [f_X6_unlikeHeights_L4, l_99, if_pos (nI_lt (by omega) (by omega))]; rfl
  | succ r ih =>
    intro h m fu M g1 g2 h1 h2 h3
    obtain ⟨fu, rfl⟩ : ∃ f, fu = f + 1 := ⟨fu - 1, by omega⟩
    by_cases gm : m = 24
    · subst gm
      have e0 : z_ul (z_has s (s 4)) (r + 1) h = [] := by
        apply List.eq_nil_of_length_eq_zero; omega
      rw [e0]
      refine ⟨M, ?_, fun k hk => by simp at hk, fun _ _ => rfl, fun _ _ => rfl⟩
      rw [f_X6_unlikeHeights_L4, l_99, if_neg (nI_nlt (by omega) (by omega)), if_pos (by decide)]; rfl
    · have hh := z_hasE (M := M) (S := 25) (s := s) (h := h) (by omega) (by rw [g1]; exact h0) hc (by rw [show 25 + 1 = 26 from rfl, g2]; exact hB)
      have m24 : m < 24 := by omega
      rw [f_X6_unlikeHeights_L4, l_99, if_neg (nI_nlt (by omega) (by omega)), l_24, if_neg (nI_ge (by omega) (by omega)), hh, Option.bind_some, nI_1, nI_1]
      simp only [z_ul] at h3 ⊢
      by_cases gp : z_has s (s 4) h = true
      · rw [if_pos gp] at h3
        simp only [if_pos gp]
        simp only [List.length_cons] at h3 ⊢
        obtain ⟨M', e1, e2, e3, e4⟩ := ih (h + 1) (m + 1) fu (bw_up M 21 m (nI h)) (by rw [z_up_k _ _ _ _ (by omega)]; exact g1) (by rw [z_up_k _ _ _ _ (by omega)]; exact g2) (by omega) (by omega) (by omega)
        refine ⟨M', ?_, ?_, ?_, ?_⟩
        · rw [if_neg (by decide), z_ib (by omega) (by omega), if_pos rfl, nI_clamp (by omega), z_ml, e1]; congr 3; omega
        · intro k hk
          cases k with
          | zero => rw [Nat.add_zero, e3 m (by omega), z_up_s]; rfl
          | succ k =>
            have := e2 k (by omega)
            rw [show m + 1 + k = m + (k + 1) by omega] at this
            rw [this]; simp
        · intro k hk; rw [e3 k (by omega), z_up_i _ _ _ _ (by omega)]
        · intro b hb; rw [e4 b hb, z_up_k _ _ _ _ hb]
      · rw [if_neg gp] at h3
        simp only [if_neg gp]
        obtain ⟨M', e1, e2, e3, e4⟩ := ih (h + 1) m fu M g1 g2 (by omega) (by omega) h3
        refine ⟨M', ?_, e2, e3, e4⟩
        rw [if_pos trivial, e1]
theorem z_mUl {M0 : Mem} {s : Nat → Nat} (hM : z_MR M0 94 s) (hc : s 4 ≤ 24) (hB : ∀ i, i < s 4 → s (14 + 4 * i) ≤ 99) : ∀ r h m fu (M : Mem), M 94 = M0 94 → M 93 22 = nI m → h + r = 100 → r < fu → m + (z_ul (z_has s (s 4)) r h).length ≤ 24 → ∃ M', f_X10_findUnlike_L7 fu (nI h) M = some M' ∧ M' 93 22 = nI (m + (z_ul (z_has s (s 4)) r h).length) ∧ (∀ x, x ≠ 22 → M' 93 x = M 93 x) ∧ (∀ k, k < (z_ul (z_has s (s 4)) r h).length → M' 108 (m + k) = nI ((z_ul (z_has s (s 4)) r h).getD k 0)) ∧ (∀ k, k < m → M' 108 k = M 108 k) ∧ ∀ b, b ≠ 93 → b ≠ 108 → M' b = M b := by
  have hfu : 30 < bw_fu := by decide
  intro r
  induction r with
  | zero =>
    intro h m fu M g1 g2 h1 h2 h3
    obtain ⟨fu, rfl⟩ : ∃ f, fu = f + 1 := ⟨fu - 1, by omega⟩
    refine ⟨M, ?_, ?_, fun _ _ => rfl, fun k hk => by simp [z_ul] at hk, fun _ _ => rfl, fun _ _ _ => rfl⟩
    · rw [f_X10_findUnlike_L7, l_100, if_pos (nI_le (by omega) (by omega))]
    · rw [g2]; rfl
  | succ r ih =>
    intro h m fu M g1 g2 h1 h2 h3
    obtain ⟨fu, rfl⟩ : ∃ f, fu = f + 1 := ⟨fu - 1, by omega⟩
    have hh := z_mHas (M := M) (s := s) (h := h) (by omega) (by intro i a b; rw [g1]; exact hM i a b) hc hB (s 4) 0 bw_fu false (by omega) (by omega)
    rw [if_neg (by decide), ← l_0, Bool.false_or] at hh
    rw [f_X10_findUnlike_L7, l_100, if_neg (nI_ge (by omega) (by omega)), hh, Option.bind_some, nI_1]
    change ∃ M', (if (if z_has s (s 4) h = true then (1 : Int32) else 0) = 0 then _ else _) = some M' ∧ _
    simp only [z_ul] at h3 ⊢
    by_cases gp : z_has s (s 4) h = true
    · rw [if_pos gp] at h3
      simp only [if_pos gp]
      simp only [List.length_cons] at h3 ⊢
      obtain ⟨M1, hM1⟩ : ∃ M1, M1 = bw_up (bw_up M 108 m (nI h)) 93 22 (nI (m + 1)) := ⟨_, rfl⟩
      obtain ⟨M', e1, e2, e3, e4, e5, e6⟩ := ih (h + 1) (m + 1) fu M1 (by rw [hM1]; simp (disch := omega) only [z_up_k]; exact g1) (by rw [hM1, z_up_s]) (by omega) (by omega) (by omega)
      refine ⟨M', ?_, ?_, ?_, ?_, ?_, ?_⟩
      · rw [if_neg (show ¬ (1 : Int32) = 0 by decide), g2, z_ib (by omega) (by omega), if_pos rfl, nI_clamp (by omega), z_ml, z_ml, z_up_k _ _ _ _ (by omega), g2, nI_1, ← hM1, e1]
      · rw [e2]; congr 1; omega
      · intro x hx; rw [e3 x hx, hM1]; simp (disch := omega) only [z_up, if_pos, if_neg, ite_true, ite_false, and_self, and_true, true_and, and_false, false_and]
      · intro k hk
        cases k with
        | zero => rw [Nat.add_zero, e5 m (by omega), hM1]; simp (disch := omega) only [z_up, if_pos, if_neg, ite_true, ite_false, and_self, and_true, true_and, and_false, false_and]; rfl
        | succ k =>
          have := e4 k (by omega)
          rw [show m + 1 + k = m + (k + 1) by omega] at this
          rw [this]; simp
      · intro k hk; rw [e5 k (by omega), hM1]; simp (disch := omega) only [z_up, if_pos, if_neg, ite_true, ite_false, and_self, and_true, true_and, and_false, false_and]
      · intro b h4 h5; rw [e6 b h4 h5, hM1]; simp (disch := omega) only [z_up_k]
    · rw [if_neg gp] at h3
      simp only [if_neg gp]
      obtain ⟨M', e1, e2, e3, e4, e5, e6⟩ := ih (h + 1) m fu M g1 g2 (by omega) (by omega) h3
      refine ⟨M', ?_, e2, e3, e4, e5, e6⟩
      rw [if_pos trivial, e1]
/-- both lists of heights -/
theorem z_ulC {M : Mem} {s : Nat → Nat} {u : Nat → TU} (hS : z_Stk M 25 94 s u) {L : List Nat} (hL : L = z_ul (z_has s (s 4)) 99 1) : L.length ≤ s 4 ∧ ∃ M', f_X6_unlikeHeights M 25 = some (nI L.length, M') ∧ (∀ k, k < L.length → M' 21 k = nI (L.getD k 0)) ∧ ∀ b, b ≠ 21 → M' b = M b := by
  obtain ⟨hW, hM, hz, c1, c2, c3, c4, hT⟩ := hS
  have w1 : s 4 ≤ 24 := hW.1.1
  have hl : L.length ≤ s 4 := by rw [hL]; exact z_ul_len s (s 4) 99 1
  refine ⟨hl, ?_⟩
  obtain ⟨M', e1, e2, e3, e4⟩ := z_cUl (M0 := M) (s := s) c1.1 w1 (fun i hi => ⟨(c2 i hi).1, (hW.2.1 i hi).2.1⟩) 99 1 0 bw_fu M rfl rfl (by omega) (by decide) (by rw [← hL]; omega)
  rw [← hL] at e1 e2
  refine ⟨M', ?_, ?_, e4⟩
  · unfold f_X6_unlikeHeights
    rw [Nat.zero_add] at e1; exact e1
  · intro k hk; have := e2 k hk; rw [Nat.zero_add] at this; exact this
theorem z_ulM {M : Mem} {s : Nat → Nat} {L : List Nat} (hW : z_W s) (hM : z_MR M 94 s) (hL : L = z_ul (z_has s (s 4)) 99 1) : ∃ M', f_X10_findUnlike M = some M' ∧ M' 93 22 = nI L.length ∧ (∀ x, x ≠ 22 → M' 93 x = M 93 x) ∧ (∀ k, k < L.length → M' 108 k = nI (L.getD k 0)) ∧ ∀ b, b ≠ 93 → b ≠ 108 → M' b = M b := by
  have w1 : s 4 ≤ 24 := hW.1.1
  have hl : L.length ≤ s 4 := by rw [hL]; exact z_ul_len s (s 4) 99 1
  obtain ⟨M', e1, e2, e3, e4, e5, e6⟩ := z_mUl (M0 := M) (s := s) hM w1 (fun i hi => (hW.2.1 i hi).2.1) 99 1 0 bw_fu (bw_up M 93 22 0) (z_up_k _ _ _ _ (by omega)) (z_up_s _ _ _ _) (by omega) (by decide) (by rw [← hL]; omega)
  rw [← hL] at e2 e4
  refine ⟨M', ?_, ?_, ?_, ?_, ?_⟩
  · unfold f_X10_findUnlike; rw [z_ml]; exact e1
  · rw [e2, Nat.zero_add]
  · intro x hx; rw [e3 x hx, z_up_i _ _ _ _ hx]
  · intro k hk; have := e4 k hk; rw [Nat.zero_add] at this; exact this
  · intro b h1 h2; rw [e6 b h1 h2, z_up_k _ _ _ _ h1]
theorem z_fo_0 {M : Mem} {S : Nat} {fu : Nat} (h : 0 < fu) : f_X6_thickness_L9 M S (-1) fu 0 0 = some 0 := by
  obtain ⟨fu, rfl⟩ : ∃ f, fu = f + 1 := ⟨fu - 1, by omega⟩
  rw [f_X6_thickness_L9, if_pos (by decide)]
theorem z_mSum1 {M : Mem} {s : Nat → Nat} (hM : z_MR M 94 s) (hc : s 4 ≤ 24) : ∀ r i fu a, i + r = s 4 → r < fu → f_X10_sumOf_L4 M 1 fu (nI a) (nI i) = some (nI (z_fo (z_fsum s) r i a)) := by
  intro r
  induction r with
  | zero =>
    intro i fu a h1 h2
    obtain ⟨fu, rfl⟩ : ∃ f, fu = f + 1 := ⟨fu - 1, by omega⟩
    rw [f_X10_sumOf_L4, z_c4, hM 4 (by omega) (by omega), if_pos (nI_le (by omega) (by omega))]; rfl
  | succ r ih =>
    intro i fu a h1 h2
    obtain ⟨fu, rfl⟩ : ∃ f, fu = f + 1 := ⟨fu - 1, by omega⟩
    have q1 : f_X10_book4 M (nI i) 1 = some (nI (s (15 + 4 * i))) := by
      have := z_b4 hM (j := i) (w := 1) (by omega) (by omega)
      rw [show 14 + 4 * i + 1 = 15 + 4 * i by omega] at this
      exact this
    rw [f_X10_sumOf_L4, z_c4, hM 4 (by omega) (by omega), if_neg (nI_ge (by omega) (by omega)), q1, Option.bind_some, nI_add, nI_1, ih (i + 1) fu _ (by omega) (by omega)]; rfl
theorem z_tie2 {M : Mem} {s : Nat → Nat} {u : Nat → TU} (hS : z_Stk M 25 94 s u) : ∀ r i fu a, i + r = s 4 → r < fu → ∃ x, f_X6_tiedBooks_L4 M 25 fu a (nI i) = some x ∧ f_X10_sumOf_L4 M 3 fu a (nI i) = some x := by
  obtain ⟨hW, hM, hz, c1, c2, c3, c4, hT⟩ := hS
  have w1 : s 4 ≤ 24 := hW.1.1
  intro r
  induction r with
  | zero =>
    intro i fu a h1 h2
    obtain ⟨fu, rfl⟩ : ∃ f, fu = f + 1 := ⟨fu - 1, by omega⟩
    rw [f_X6_tiedBooks_L4, f_X10_sumOf_L4, z_c4, hM 4 (by omega) (by omega), c1.1, if_pos (nI_le (by omega) (by omega)), if_pos (nI_le (by omega) (by omega))]
    exact ⟨_, rfl, rfl⟩
  | succ r ih =>
    intro i fu a h1 h2
    obtain ⟨fu, rfl⟩ : ∃ f, fu = f + 1 := ⟨fu - 1, by omega⟩
    have t := (hW.2.1 i (by omega)).2.2.2.2.2
    have q1 : f_X10_book4 M (nI i) 3 = some (nI (s (17 + 4 * i))) := by
      have := z_b4 hM (j := i) (w := 3) (by omega) (by omega)
      rw [show 14 + 4 * i + 3 = 17 + 4 * i by omega] at this
      exact this
    have q2 := (c2 i (by omega)).2.2.2
    generalize s (17 + 4 * i) = b at *
    have e : (if nI b = 0 then (0 : Int32) else 1) = nI b := by
      rcases (by omega : b = 0 ∨ b = 1) with rfl | rfl <;> rfl
    rw [f_X6_tiedBooks_L4, f_X10_sumOf_L4, z_c4, hM 4 (by omega) (by omega), c1.1, if_neg (nI_ge (by omega) (by omega)), if_neg (nI_ge (by omega) (by omega)), z_ib (by omega) (by omega), if_pos rfl, nI_clamp (by omega), q1, q2, Option.bind_some, z_ml, nI_1, e]
    exact ih (i + 1) fu _ (by omega) (by omega)
theorem z_Askm {n : Nat} {M : Mem} (h : z_Ask n M) : z_Ask (n + 1) M := by
  obtain ⟨q, a, b⟩ := h
  exact ⟨q, by omega, b⟩
theorem op_count : Op_count Inv := by
  intro n M a hn hI
  have hI' := hI
  obtain ⟨⟨s, u, hS⟩, -⟩ := hI'
  have hS' := hS
  obtain ⟨hW, hM, hz, c1, c2, c3, c4, hT⟩ := hS
  obtain ⟨w1, w2, w3, w4, w5, w6, w7, w8, w9⟩ := hW.1
  obtain ⟨d1, d2, d3, d4, d5, d6, d7⟩ := c1
  have m4 : M 94 4 = nI (s 4) := hM 4 (by omega) (by omega)
  have m5 : M 94 5 = nI (s 5) := hM 5 (by omega) (by omega)
  have m6 : M 94 6 = nI (s 6) := hM 6 (by omega) (by omega)
  have m7 : M 94 7 = nI (s 7) := hM 7 (by omega) (by omega)
  have hfu : 30 < bw_fu := by decide
  have fin : ∀ r, f_X9_count M a = some (r, M) → f_X10_count M a = some (r, M) → ∃ (r : Int32) (M1 M2 : Mem), (f_X9_count M a = some (r, M1)) ∧ (f_X10_count M1 a = some (r, M2)) ∧ Inv (n + 1) M2 :=
    fun r h1 h2 => ⟨r, M, M, h1, h2, z_nochange hI⟩
  by_cases g0 : a = 0
  · subst g0
    exact fin (nI (s 4)) (by rw [← d1]; rfl) (by rw [← m4]; rfl)
  by_cases g1 : a = 1
  · subst g1
    exact fin (nI (s 5)) (by rw [← d5]; rfl) (by rw [← m5]; rfl)
  by_cases g2 : a = 2
  · subst g2
    exact fin (nI (s 6)) (by rw [← d7]; rfl) (by rw [← m6]; rfl)
  by_cases g3 : a = 3
  · subst g3
    exact fin (nI (s 7)) (by rw [← d6]; rfl) (by rw [← m7]; rfl)
  by_cases g4 : a = 4
  · subst g4
    have x2 := z_mSum1 hM w1 (s 4) 0 bw_fu 0 (by omega) (by omega)
    refine fin (nI (z_fo (z_fsum s) (s 4) 0 0)) ?_ ?_
    · unfold f_X9_count f_X6_thickness
      rw [if_neg (by decide), if_neg (by decide), if_neg (by decide), if_neg (by decide), if_pos rfl, d1]
      cases hs : s 4 with
      | zero =>
        rw [show nI 0 - 1 = (-1 : Int32) by decide, show bw_max 0 0 = (0 : Int32) by decide, z_fo_0 (by omega)]; rfl
      | succ c =>
        have x1 := z_cThi (M := M) (S := 25) (s := s) (l := c) d1 w1 (by omega) (fun i hi => (c2 i hi).2.1) (c + 1) 0 bw_fu 0 (by omega) (by omega)
        rw [nI_pred, show bw_max 0 0 = (0 : Int32) by decide]
        rw [← l_0] at x1
        rw [x1]; rfl
    · unfold f_X10_count f_X10_sumOf
      rw [if_neg (by decide), if_neg (by decide), if_neg (by decide), if_neg (by decide), if_pos rfl]
      rw [← l_0] at x2
      rw [x2]; rfl
  by_cases g5 : a = 5
  · subst g5
    obtain ⟨x, e1, e2⟩ := z_tie2 hS' (s 4) 0 bw_fu 0 (by omega) (by omega)
    rw [← l_0] at e1 e2
    refine fin x ?_ ?_
    · unfold f_X9_count f_X6_tiedBooks
      rw [if_neg (by decide), if_neg (by decide), if_neg (by decide), if_neg (by decide), if_neg (by decide), if_pos rfl, e1]; rfl
    · unfold f_X10_count f_X10_sumOf
      rw [if_neg (by decide), if_neg (by decide), if_neg (by decide), if_neg (by decide), if_neg (by decide), if_pos rfl, e2]; rfl
  by_cases g6 : a = 6
  · subst g6
    obtain ⟨L, hL⟩ : ∃ L, L = z_ul (z_has s (s 4)) 99 1 := ⟨_, rfl⟩
    obtain ⟨hl, M1, e1, e2, e3⟩ := z_ulC hS' hL
    obtain ⟨M2, f1, f2, f3, f4, f5⟩ := z_ulM (M := M1) hW (by intro i a b; rw [e3 94 (by omega)]; exact hM i a b) hL
    refine ⟨nI L.length, M1, M2, ?_, ?_, ?_⟩
    · unfold f_X9_count
      rw [if_neg (by decide), if_neg (by decide), if_neg (by decide), if_neg (by decide), if_neg (by decide), if_neg (by decide), if_pos rfl, e1]; rfl
    · unfold f_X10_count
      rw [if_neg (by decide), if_neg (by decide), if_neg (by decide), if_neg (by decide), if_neg (by decide), if_neg (by decide), if_pos rfl, f1, Option.bind_some, f2]
    · have fr : ∀ b, b ≠ 21 → b ≠ 93 → b ≠ 108 → M2 b = M b := by
        intro b h1 h2 h3; rw [f5 b h2 h3, e3 b h1]
      have f93 : ∀ x, x ≠ 22 → M2 93 x = M 93 x := by
        intro x hx; rw [f3 x hx, e3 93 (by omega)]
      have hL2 := z_32L hI
      refine z_Prs_Inv (M := M) (n := n) ⟨?_, ?_, f93 _ (by omega), f93 _ (by omega), f93 _ (by omega), ?_⟩ hI ?_ (by omega) ?_ ?_
      · intro k hk; exact fr k (by unfold z_pr at hk; omega) (by unfold z_pr at hk; omega) (by unfold z_pr at hk; omega)
      · rw [fr _ (by omega) (by omega) (by omega)]
      · intro c; rw [fr _ (by omega) (by omega) (by omega), fr _ (by omega) (by omega) (by omega), fr _ (by omega) (by omega) (by omega)]; exact ⟨rfl, rfl, rfl⟩
      · exact z_Askm (z_Ask_fr (f93 _ (by omega)) (fr _ (by omega) (by omega) (by omega)) hI.2.2.2.2.2.2.2.1)
      · rw [fr _ (by omega) (by omega) (by omega)]; exact hL2.2.2.1
      · rw [fr _ (by omega) (by omega) (by omega)]; exact hL2.2.2.2
  by_cases g7 : a = 7
  · subst g7
    obtain ⟨w, -, t1, t2, -⟩ := hI.2.2.2.2.2.2.1
    exact fin (nI w) (by rw [← t1]; rfl) (by rw [← t2]; rfl)
  by_cases g8 : a = 8
  · subst g8
    obtain ⟨w, -, t1, t2, -⟩ := hI.2.2.1
    exact fin (nI w) (by rw [← t1]; rfl) (by rw [← t2]; rfl)
  by_cases g9 : a = 9
  · subst g9
    exact fin (M 25 8) rfl (by rw [hz]; rfl)
  refine fin (-1000000001) ?_ ?_
  · unfold f_X9_count
    rw [if_neg g0, if_neg g1, if_neg g2, if_neg g3, if_neg g4, if_neg g5, if_neg g6, if_neg g7, if_neg g8, if_neg g9]
  · unfold f_X10_count
    rw [if_neg g0, if_neg g1, if_neg g2, if_neg g3, if_neg g4, if_neg g5, if_neg g6, if_neg g7, if_neg g8, if_neg g9]
