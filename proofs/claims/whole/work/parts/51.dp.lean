/-! level 2: the least prices, told by numbers -/
def z_cl (N : Nat) (x : Int32) : Nat := if x < 0 then 0 else if x.toNatClampNeg < N then x.toNatClampNeg else N
theorem z_cl_le (N : Nat) (x : Int32) : z_cl N x ≤ N := by unfold z_cl; split <;> (try split) <;> omega
theorem z_heldE {N : Nat} (hN : N < 2 ^ 31) (x : Int32) : f_X9_held x 0 (nI N) = nI (z_cl N x) := by
  unfold f_X9_held bw_max bw_min z_cl
  by_cases h : x < 0
  · have h2 : x < nI N := Int32.lt_of_lt_of_le h (nI_pos' hN)
    have h3 : ¬ 0 < x := Int32.not_lt.mpr (Int32.le_of_lt h)
    rw [if_pos h2, if_neg h3, if_pos h]; rfl
  · obtain ⟨j, hj, rfl⟩ := nI_of h
    rw [if_neg h, nI_clamp hj]
    by_cases g : j < N
    · rw [if_pos (nI_lt g hN), if_pos g]
      by_cases g2 : 0 < j
      · rw [if_pos (show (0 : Int32) < nI j from nI_lt (a := 0) g2 hj)]
      · rw [if_neg (show ¬ (0 : Int32) < nI j from nI_nlt (b := j) (a := 0) (by omega) (by omega)), show j = 0 by omega]; rfl
    · rw [if_neg (nI_nlt (by omega) hj), if_neg g]
      by_cases g2 : 0 < N
      · rw [if_pos (show (0 : Int32) < nI N from nI_lt (a := 0) g2 hN)]
      · rw [if_neg (show ¬ (0 : Int32) < nI N from nI_nlt (b := N) (a := 0) (by omega) (by omega)), show N = 0 by omega]; rfl
theorem z_withE {N : Nat} (hN : N < 2 ^ 31) (x : Int32) : f_X10_within x 0 (nI N) = nI (z_cl N x) := by
  unfold f_X10_within z_cl
  by_cases h : x < 0
  · rw [if_neg (Int32.not_le.mpr h), if_pos h]; rfl
  · rw [if_pos (Int32.not_lt.mp h), if_neg h]
    obtain ⟨j, hj, rfl⟩ := nI_of h
    rw [nI_clamp hj]
    by_cases g : j < N
    · rw [if_pos (nI_le (by omega) hN), if_pos g]
    · rw [if_neg g]
      by_cases g2 : j = N
      · subst g2; rw [if_pos (nI_le (by omega) hN)]
      · rw [if_neg (nI_ge (by omega) hj)]
def z_P (lw : Option TU) (pl h b : Nat) : Nat := match lw with
  | none => h + pl
  | some u => z_cl 9999 (z_val (nI h) (nI b) (nI pl) u.2.2)
theorem z_P_le {lw : Option TU} {pl h b : Nat} (hp : pl ≤ 9) (hh : h ≤ 99) : z_P lw pl h b ≤ 9999 := by
  unfold z_P
  cases lw with
  | none => simp only; omega
  | some u => exact z_cl_le _ _
def z_sfL (A : Nat → Nat) (tl : Nat) : Nat → Nat → Nat → Nat
  | 0, _, a => a
  | r + 1, i, a => z_sfL A tl r (i + 1) (if A i < tl then a else if a = 0 then A i else if a ≤ A i then a else A i)
def z_sf (A : Nat → Nat) (c tl : Nat) : Nat := if c = 0 then tl else z_sfL A tl c 0 0
theorem z_sfL_le {A : Nat → Nat} {tl c : Nat} (hA : ∀ i, i < c → A i ≤ 99) : ∀ r i a, i + r = c → a ≤ 99 → z_sfL A tl r i a ≤ 99 := by
  intro r
  induction r with
  | zero => intro i a _ h; exact h
  | succ r ih =>
    intro i a h1 h2
    have := hA i (by omega)
    rw [z_sfL]
    refine ih (i + 1) _ (by omega) ?_
    split
    · exact h2
    · split
      · exact this
      · split <;> omega
theorem z_sf_le {A : Nat → Nat} {tl c : Nat} (hA : ∀ i, i < c → A i ≤ 99) (ht : tl ≤ 99) : z_sf A c tl ≤ 99 := by
  unfold z_sf
  split
  · exact ht
  · exact z_sfL_le hA _ _ _ (by omega) (by omega)
def z_mx (a b : Nat) : Nat := if a < b then b else a
theorem z_mx_le {a b N : Nat} (h1 : a ≤ N) (h2 : b ≤ N) : z_mx a b ≤ N := by unfold z_mx; split <;> omega
def z_bt (b : Option Nat) (p : Nat) : Bool := match b with
  | none => true
  | some b0 => decide (p ≤ b0)
section
variable (m W : Nat) (h t d sf : Nat → Nat) (P : Nat → Nat → Nat)
/-- from book i on: the best so far, and where the line behind it begins -/
def z_i1 (L : Nat → Option Nat) (i : Nat) : Nat → Nat → Nat → Nat → Option Nat → Nat → Option Nat × Nat
  | 0, _, _, _, b, x => (b, x)
  | r + 1, j, th, tl, b, x => if W < th + t j then (b, x) else
    match (if (m ≤ j + 1 ∨ d j = 0) ∧ 0 < sf (z_mx tl (h j)) then L (j + 1) else none) with
    | none => z_i1 L i r (j + 1) (th + t j) (z_mx tl (h j)) b x
    | some q => if z_bt b (P (sf (z_mx tl (h j))) (j + 1 - i) + q) = true then z_i1 L i r (j + 1) (th + t j) (z_mx tl (h j)) (some (P (sf (z_mx tl (h j))) (j + 1 - i) + q)) (j + 1) else z_i1 L i r (j + 1) (th + t j) (z_mx tl (h j)) b x
def z_out : Nat → (Nat → Option Nat) × (Nat → Nat)
  | 0 => (fun j => if j = m then some 0 else none, fun _ => 0)
  | k + 1 => (fun j => if j = m - 1 - k then (z_i1 m W h t d sf P (z_out k).1 (m - 1 - k) (k + 1) (m - 1 - k) 0 0 none m).1 else (z_out k).1 j, fun j => if j = m - 1 - k then (z_i1 m W h t d sf P (z_out k).1 (m - 1 - k) (k + 1) (m - 1 - k) 0 0 none m).2 else (z_out k).2 j)
/-- what is sure of a part's end -/
theorem z_i1E (L : Nat → Option Nat) (i : Nat) : ∀ r j th tl b x, j + r = m → (z_i1 m W h t d sf P L i r j th tl b x = (b, x)) ∨ ∃ p y q, z_i1 m W h t d sf P L i r j th tl b x = (some p, y) ∧ j < y ∧ y ≤ m ∧ L y = some q := by
  intro r
  induction r with
  | zero => intro j th tl b x _; left; rfl
  | succ r ih =>
    intro j th tl b x h1
    rw [z_i1]
    by_cases g : W < th + t j
    · rw [if_pos g]; left; rfl
    · rw [if_neg g]
      have none' : z_i1 m W h t d sf P L i r (j + 1) (th + t j) (z_mx tl (h j)) b x = (b, x) ∨ ∃ p y q, z_i1 m W h t d sf P L i r (j + 1) (th + t j) (z_mx tl (h j)) b x = (some p, y) ∧ j < y ∧ y ≤ m ∧ L y = some q := by
        rcases ih (j + 1) (th + t j) (z_mx tl (h j)) b x (by omega) with e | ⟨p, y, q, e1, e2, e3, e4⟩
        · exact Or.inl e
        · exact Or.inr ⟨p, y, q, e1, by omega, e3, e4⟩
      by_cases g2 : (m ≤ j + 1 ∨ d j = 0) ∧ 0 < sf (z_mx tl (h j))
      · rw [if_pos g2]
        cases hL : L (j + 1) with
        | none => exact none'
        | some q =>
          simp only
          by_cases g3 : z_bt b (P (sf (z_mx tl (h j))) (j + 1 - i) + q) = true
          · rw [if_pos g3]
            rcases ih (j + 1) (th + t j) (z_mx tl (h j)) (some (P (sf (z_mx tl (h j))) (j + 1 - i) + q)) (j + 1) (by omega) with e | ⟨p, y, q', e1, e2, e3, e4⟩
            · exact Or.inr ⟨_, _, q, e, by omega, by omega, hL⟩
            · exact Or.inr ⟨p, y, q', e1, by omega, e3, e4⟩
          · rw [if_neg g3]; exact none'
      · rw [if_neg g2]; exact none'
theorem z_i1B (L : Nat → Option Nat) (i : Nat) (hi : i < m) (hP : ∀ a b, a ≤ 99 → P a b ≤ 9999) (hsf : ∀ a, a ≤ 99 → sf a ≤ 99) (hh : ∀ j, j < m → h j ≤ 99) (hL : ∀ k q, i < k → L k = some q → q ≤ 9999 * (m - k)) : ∀ r j th tl b x, j + r = m → i ≤ j → tl ≤ 99 → (∀ q, b = some q → q ≤ 9999 * (m - i)) → ∀ q, (z_i1 m W h t d sf P L i r j th tl b x).1 = some q → q ≤ 9999 * (m - i) := by
  intro r
  induction r with
  | zero => intro j th tl b x _ _ _ h4 q hq; exact h4 q hq
  | succ r ih =>
    intro j th tl b x h1 h2 h3 h4
    have h3' := z_mx_le h3 (hh j (by omega))
    rw [z_i1]
    by_cases g : W < th + t j
    · rw [if_pos g]; exact h4
    · rw [if_neg g]
      by_cases g2 : (m ≤ j + 1 ∨ d j = 0) ∧ 0 < sf (z_mx tl (h j))
      · rw [if_pos g2]
        cases hLj : L (j + 1) with
        | none => exact ih (j + 1) _ _ b x (by omega) (by omega) h3' h4
        | some q =>
          simp only
          by_cases g3 : z_bt b (P (sf (z_mx tl (h j))) (j + 1 - i) + q) = true
          · rw [if_pos g3]
            refine ih (j + 1) _ _ _ _ (by omega) (by omega) h3' ?_
            intro q' hq'
            injection hq' with hq'
            have a1 := hP (sf (z_mx tl (h j))) (j + 1 - i) (hsf _ h3')
            have a2 := hL (j + 1) q (by omega) hLj
            omega
          · rw [if_neg g3]; exact ih (j + 1) _ _ b x (by omega) (by omega) h3' h4
      · rw [if_neg g2]; exact ih (j + 1) _ _ b x (by omega) (by omega) h3' h4
theorem z_outN : ∀ k j, k ≤ m → j < m - k → (z_out m W h t d sf P k).1 j = none := by
  intro k
  induction k with
  | zero => intro j _ hj; rw [z_out]; simp only; rw [if_neg (by omega)]
  | succ k ih =>
    intro j hk hj
    rw [z_out]; simp only; rw [if_neg (by omega)]; exact ih j (by omega) (by omega)
theorem z_outB (hP : ∀ a b, a ≤ 99 → P a b ≤ 9999) (hsf : ∀ a, a ≤ 99 → sf a ≤ 99) (hh : ∀ j, j < m → h j ≤ 99) : ∀ k, k ≤ m → ∀ j q, (z_out m W h t d sf P k).1 j = some q → q ≤ 9999 * (m - j) := by
  intro k
  induction k with
  | zero => intro _ j q hq; rw [z_out] at hq; simp only at hq; split at hq <;> simp at hq; omega
  | succ k ih =>
    intro hk j q hq
    rw [z_out] at hq; simp only at hq
    by_cases g : j = m - 1 - k
    · rw [if_pos g] at hq
      rw [g]
      exact z_i1B m W h t d sf P _ (m - 1 - k) (by omega) hP hsf hh (fun k' q' _ hq' => ih (by omega) k' q' hq') _ _ _ _ _ _ (by omega) (by omega) (by omega) (fun q' hq' => by simp at hq') q hq
    · rw [if_neg g] at hq; exact ih (by omega) j q hq
/-- later steps leave what stands -/
theorem z_outK : ∀ k j, m - 1 - k < j → (z_out m W h t d sf P (k + 1)).1 j = (z_out m W h t d sf P k).1 j ∧ (z_out m W h t d sf P (k + 1)).2 j = (z_out m W h t d sf P k).2 j := by
  intro k j hj
  constructor
  · rw [z_out]; simp only; rw [if_neg (by omega)]
  · rw [z_out]; simp only; rw [if_neg (by omega)]
/-- behind a book that can begin a line comes one that can, or the end -/
theorem z_outS : ∀ k, k ≤ m → ∀ j q, j < m → (z_out m W h t d sf P k).1 j = some q → j < (z_out m W h t d sf P k).2 j ∧ (z_out m W h t d sf P k).2 j ≤ m ∧ ∃ q', (z_out m W h t d sf P k).1 ((z_out m W h t d sf P k).2 j) = some q' := by
  intro k
  induction k with
  | zero => intro _ j q hj hq; rw [z_out] at hq; simp only at hq; rw [if_neg (by omega)] at hq; simp at hq
  | succ k ih =>
    intro hk j q hj hq
    by_cases g : j = m - 1 - k
    · have e1 : (z_out m W h t d sf P (k + 1)).1 j = (z_i1 m W h t d sf P (z_out m W h t d sf P k).1 (m - 1 - k) (k + 1) (m - 1 - k) 0 0 none m).1 := by rw [z_out]; simp only; rw [if_pos g]
      have e2 : (z_out m W h t d sf P (k + 1)).2 j = (z_i1 m W h t d sf P (z_out m W h t d sf P k).1 (m - 1 - k) (k + 1) (m - 1 - k) 0 0 none m).2 := by rw [z_out]; simp only; rw [if_pos g]
      rw [e1] at hq
      rw [e2]
      rcases z_i1E m W h t d sf P (z_out m W h t d sf P k).1 (m - 1 - k) (k + 1) (m - 1 - k) 0 0 none m (by omega) with e | ⟨p, y, q', f1, f2, f3, f4⟩
      · rw [e] at hq; simp at hq
      · rw [f1]
        refine ⟨by omega, f3, q', ?_⟩
        rw [(z_outK m W h t d sf P k y (by omega)).1]; exact f4
    · by_cases g2 : j < m - 1 - k
      · rw [z_outN m W h t d sf P (k + 1) j hk (by omega)] at hq; simp at hq
      · obtain ⟨e1, e2⟩ := z_outK m W h t d sf P k j (by omega)
        rw [e1] at hq
        obtain ⟨a1, a2, q', a3⟩ := ih (by omega) j q hj hq
        rw [e2]
        refine ⟨a1, a2, q', ?_⟩
        rw [(z_outK m W h t d sf P k _ (by omega)).1]; exact a3
end
def z_oI (b : Option Nat) : Int32 := match b with
  | none => -1
  | some q => nI q
theorem z_oI_neg {b : Option Nat} (hb : ∀ q, b = some q → q < 2 ^ 31) : z_oI b < 0 ↔ b = none := by
  cases b with
  | none => exact ⟨fun _ => rfl, fun _ => by decide⟩
  | some q => exact ⟨fun e => absurd e (nI_pos (hb q rfl)), fun e => by simp at e⟩
