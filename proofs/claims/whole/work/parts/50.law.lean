/-! level 2: what a text gives -/
def z_two (k : Nat) (x y : Int32) : Int32 := (f_X10_two (-(nI (k + 1))) x y).getD 0
theorem z_twoM {k : Nat} (hk : k < 9) (x y : Int32) : f_X10_two (-(nI (k + 1))) x y = some (z_two k x y) := by
  unfold z_two
  by_cases hy : y = 0
  · subst hy
    rcases (by omega : k = 0 ∨ k = 1 ∨ k = 2 ∨ k = 3 ∨ k = 4 ∨ k = 5 ∨ k = 6 ∨ k = 7 ∨ k = 8) with rfl | rfl | rfl | rfl | rfl | rfl | rfl | rfl | rfl <;> rfl
  · rcases (by omega : k = 0 ∨ k = 1 ∨ k = 2 ∨ k = 3 ∨ k = 4 ∨ k = 5 ∨ k = 6 ∨ k = 7 ∨ k = 8) with rfl | rfl | rfl | rfl | rfl | rfl | rfl | rfl | rfl
    · rfl
    · rfl
    · rfl
    · rfl
    · rfl
    · rfl
    · rfl
    · rfl
    · have : f_X10_two (-(nI (8 + 1))) x y = (if y = 0 then some (0 : Int32) else if ¬ y = 0 then some (x / y) else none) := rfl
      rw [this, if_neg hy, if_pos hy]; rfl
theorem z_twoC {k : Nat} (hk : k < 9) (x y : Int32) : f_X1_joined (-(z_cenc (10010 + k))) x y = some (z_two k x y) := by
  rw [← z_twoM hk]
  rcases (by omega : k = 0 ∨ k = 1 ∨ k = 2 ∨ k = 3 ∨ k = 4 ∨ k = 5 ∨ k = 6 ∨ k = 7 ∨ k = 8) with rfl | rfl | rfl | rfl | rfl | rfl | rfl | rfl | rfl <;> rfl
def z_stp (a b c : Int32) (x : Nat) (st : List Int32) : List Int32 :=
  if x < 10000 then nI x :: st else if x = 10000 then a :: st else if x = 10001 then b :: st else if x = 10002 then c :: st else if x = 10019 then (match st with
    | y :: r => (if y = 0 then 1 else 0) :: r
    | [] => []) else (match st with
    | y :: x' :: r => z_two (x - 10010) x' y :: r
    | _ => [])
def z_run (a b c : Int32) : List Nat → List Int32 → List Int32
  | [], st => st
  | x :: l, st => z_run a b c l (z_stp a b c x st)
def z_val (a b c : Int32) (l : List Nat) : Int32 := (z_run a b c l []).headD 0
/-- the row holds the stack, its top last -/
def z_sk (row : Nat → Int32) (st : List Int32) : Prop := ∀ i, i < st.length → row i = st.getD (st.length - 1 - i) 0
theorem z_sk_push {M : Mem} {k : Nat} {st : List Int32} (h : z_sk (M k) st) (x : Int32) : z_sk (bw_up M k st.length x k) (x :: st) := by
  intro i hi
  simp only [List.length_cons] at hi ⊢
  by_cases g : i = st.length
  · subst g; rw [z_up_s]; simp
  · rw [z_up_i _ _ _ _ g, h i (by omega), show st.length + 1 - 1 - i = (st.length - 1 - i) + 1 by omega, List.getD_cons_succ]
theorem z_sk_top {M : Mem} {k : Nat} {y : Int32} {r : List Int32} (h : z_sk (M k) (y :: r)) : M k r.length = y := by
  have := h r.length (by simp)
  rw [this]; simp
theorem z_sk_top2 {M : Mem} {k : Nat} {y x : Int32} {r : List Int32} (h : z_sk (M k) (y :: x :: r)) : M k r.length = x ∧ M k (r.length + 1) = y := by
  constructor
  · have := h r.length (by simp; omega)
    rw [this, show (y :: x :: r).length - 1 - r.length = 1 by simp]; rfl
  · have := h (r.length + 1) (by simp)
    rw [this, show (y :: x :: r).length - 1 - (r.length + 1) = 0 by simp]; rfl
theorem z_sk_tail {row : Nat → Int32} {y : Int32} {r : List Int32} (h : z_sk row (y :: r)) : z_sk row r := by
  intro i hi
  have := h i (by simp; omega)
  rw [this]
  simp only [List.length_cons]
  rw [show r.length + 1 - 1 - i = (r.length - 1 - i) + 1 by omega, List.getD_cons_succ]
theorem z_ato_le : ∀ l : List Nat, z_ato l ≤ l.length
  | [] => by simp [z_ato]
  | x :: l => by have := z_ato_le l; simp only [z_ato, List.length_cons]; split <;> omega
theorem z_ce1 {x : Nat} (h : x < 10000) : z_cenc x = nI x := by unfold z_cenc; rw [if_pos h]
theorem z_me1 {x : Nat} (h : x < 10003) : z_menc x = nI x := by unfold z_menc; rw [if_pos h]
theorem z_op1 {x : Nat} (h : x < 10000) (a b c : Int32) : f_X1_operand (nI x) a b c = nI x := by
  have k : ∀ y : Int32, y < 0 → ¬ nI x = y := by
    intro y hy e
    rw [← e] at hy
    exact nI_pos (by omega) hy
  unfold f_X1_operand
  rw [if_neg (k (-3) (by decide)), if_neg (k (-2) (by decide)), if_neg (k (-1) (by decide))]
theorem z_lt3 {x : Nat} (h : x < 10000) : ¬ nI x < -3 := by
  intro e
  exact nI_pos (n := x) (by omega) (Int32.lt_trans e (by decide))
/-- the class works a law out -/
theorem z_cGiv {u : TU} {a b c : Int32} {A nm : Nat} (hA : A = z_lcN u.1) (hlc : bw_lc (nI u.1) = A) (hnm : nm ≤ 3) (hlen : u.2.2.length ≤ 96) : ∀ (l : List Nat) (k fu : Nat) (st : List Int32) (M : Mem), bw_lok M (nI u.1) = true → M (A + 1) 1000 = nI u.2.2.length → M (A + 2) 1000 = nI (max 1 (z_ato u.2.2)) → (∀ k, k < u.2.2.length → M (A + 1) k = z_cenc (u.2.2.getD k 0)) → k + l.length = u.2.2.length → (∀ i, i < l.length → u.2.2.getD (k + i) 0 = l.getD i 0) → z_twf nm l st.length → st.length + z_ato l ≤ z_ato u.2.2 → z_sk (M (A + 2)) st → l.length < fu → ∃ M', f_X1_gives_L6 (nI u.1) a b c fu (nI st.length - 1) (nI k) M = some ((z_run a b c l st).headD 0, M') ∧ M' (A + 2) 1000 = M (A + 2) 1000 ∧ ∀ b, b ≠ A + 2 → M' b = M b := by
  have at96 := z_ato_le u.2.2
  intro l
  induction l with
  | nil =>
    intro k fu st M q1 q2 q3 q4 h1 h2 h3 h4 h5 h6
    obtain ⟨fu, rfl⟩ : ∃ f, fu = f + 1 := ⟨fu - 1, by omega⟩
    simp only [List.length_nil, Nat.add_zero] at h1
    have h3' : st.length = 1 := h3
    have e0 : M (A + 2) 0 = st.headD 0 := by
      have := h5 0 (by omega)
      rw [this, h3']
      cases st with
      | nil => simp at h3'
      | cons y r => rfl
    refine ⟨M, ?_, rfl, fun _ _ => rfl⟩
    rw [f_X1_gives_L6, q1, if_pos rfl, hlc, q2, nI_clamp (by omega), if_pos (nI_le (by omega) (by omega)), q3, nI_clamp (by omega), l_0, z_ib (by omega) (by omega), if_pos rfl, nI_clamp (by omega), e0]
    rfl
  | cons x l ih =>
    intro k fu st M q1 q2 q3 q4 h1 h2 h3 h4 h5 h6
    obtain ⟨fu, rfl⟩ : ∃ f, fu = f + 1 := ⟨fu - 1, by omega⟩
    simp only [List.length_cons] at h1 h6
    have hx : M (A + 1) k = z_cenc x := by
      rw [q4 k (by omega)]
      have := h2 0 (by simp)
      rw [Nat.add_zero] at this
      rw [this]; rfl
    have h2' : ∀ i, i < l.length → u.2.2.getD (k + 1 + i) 0 = l.getD i 0 := by
      intro i hi
      have := h2 (i + 1) (by simp; omega)
      rw [show k + 1 + i = k + (i + 1) by omega, this, List.getD_cons_succ]
    have keep : ∀ (p : Nat) (v : Int32), p < 1000 → bw_lok (bw_up M (A + 2) p v) (nI u.1) = true ∧ bw_up M (A + 2) p v (A + 1) 1000 = nI u.2.2.length ∧ bw_up M (A + 2) p v (A + 2) 1000 = nI (max 1 (z_ato u.2.2)) ∧ ∀ k, k < u.2.2.length → bw_up M (A + 2) p v (A + 1) k = z_cenc (u.2.2.getD k 0) := by
      intro p v hp
      have a2 : 0 ≠ A + 2 := by omega
      refine ⟨?_, ?_, ?_, ?_⟩
      · unfold bw_lok at q1 ⊢; rw [z_up_k _ _ _ _ a2]; exact q1
      · rw [z_up_k _ _ _ _ (by omega)]; exact q2
      · rw [z_up_i _ _ _ _ (by omega)]; exact q3
      · intro k hk; rw [z_up_k _ _ _ _ (by omega)]; exact q4 k hk
    have sl : st.length ≤ 96 := by omega
    -- a number or a name comes
    have push : ∀ v : Int32, f_X1_operand (z_cenc x) a b c = v → ¬ z_cenc x < -3 → x < 10003 → z_twf nm l (st.length + 1) → z_stp a b c x st = v :: st → ∃ M', f_X1_gives_L6 (nI u.1) a b c (fu + 1) (nI st.length - 1) (nI k) M = some ((z_run a b c (x :: l) st).headD 0, M') ∧ M' (A + 2) 1000 = M (A + 2) 1000 ∧ ∀ b, b ≠ A + 2 → M' b = M b := by
      intro v e1 e2 e3 e4 e5
      simp only [z_ato, if_pos e3] at h4
      obtain ⟨k1, k2, k3, k4⟩ := keep st.length v (by omega)
      obtain ⟨M', f1, f2, f3⟩ := ih (k + 1) fu (v :: st) (bw_up M (A + 2) st.length v) k1 k2 k3 k4 (by omega) h2' e4 (by simp only [List.length_cons]; omega) (z_sk_push h5 v) (by omega)
      have t1 : nI st.length - 1 + 1 = nI st.length := by rw [Int32.sub_add_cancel]
      refine ⟨M', ?_, ?_, ?_⟩
      · rw [f_X1_gives_L6, q1, if_pos rfl, hlc, q2, nI_clamp (by omega), if_neg (nI_ge (by omega) (by omega)), z_ib (by omega) (by omega), if_pos rfl, nI_clamp (by omega), hx, z_ml, if_neg e2, q3, nI_clamp (by omega), t1, if_neg (nI_ge (by omega) (by omega)), z_ib (by omega) (by omega), if_pos rfl, z_ib (by omega) (by omega), if_pos rfl, nI_clamp (by omega), e1, z_ml, nI_1]
        rw [show z_run a b c (x :: l) st = z_run a b c l (v :: st) by rw [z_run, e5]]
        have t2 : nI st.length = nI (v :: st).length - 1 := by simp only [List.length_cons]; rw [nI_pred]
        rw [t2]; exact f1
      · rw [f2, z_up_i _ _ _ _ (by omega)]
      · intro b hb; rw [f3 b hb, z_up_k _ _ _ _ hb]
    rw [z_twf] at h3
    by_cases g : x < 10000 + nm
    · rw [if_pos g] at h3
      by_cases g1 : x < 10000
      · refine push (nI x) ?_ ?_ (by omega) h3 ?_
        · rw [z_ce1 g1, z_op1 g1]
        · rw [z_ce1 g1]; exact z_lt3 g1
        · unfold z_stp; rw [if_pos g1]
      · rcases (by omega : x = 10000 ∨ x = 10001 ∨ x = 10002) with rfl | rfl | rfl
        · exact push a rfl (by decide) (by omega) h3 rfl
        · exact push b rfl (by decide) (by omega) h3 rfl
        · exact push c rfl (by decide) (by omega) h3 rfl
    · rw [if_neg g] at h3
      by_cases g2 : x = 10019
      · rw [if_pos g2] at h3
        subst g2
        cases st with
        | nil => simp at h3
        | cons y r =>
          obtain ⟨w, hw⟩ : ∃ w : Int32, w = if y = 0 then 1 else 0 := ⟨_, rfl⟩
          simp only [z_ato] at h4
          simp only [List.length_cons] at h3 h4 sl
          obtain ⟨k1, k2, k3, k4⟩ := keep r.length w (by omega)
          have sk : z_sk (bw_up M (A + 2) r.length w (A + 2)) (w :: r) := z_sk_push (z_sk_tail h5) w
          obtain ⟨M', f1, f2, f3⟩ := ih (k + 1) fu (w :: r) (bw_up M (A + 2) r.length w) k1 k2 k3 k4 (by omega) h2' (by simp only [List.length_cons]; exact h3.2) (by simp only [List.length_cons]; omega) sk (by omega)
          have t0 : nI (y :: r).length - 1 = nI r.length := by simp only [List.length_cons]; rw [nI_pred]
          have t2 : nI (w :: r).length - 1 = nI r.length := by simp only [List.length_cons]; rw [nI_pred]
          rw [t2] at f1
          refine ⟨M', ?_, ?_, ?_⟩
          · rw [f_X1_gives_L6, q1, if_pos rfl, hlc, q2, nI_clamp (by omega), if_neg (nI_ge (by omega) (by omega)), z_ib (by omega) (by omega), if_pos rfl, nI_clamp (by omega), hx, z_ml, if_pos (by decide), if_pos (by decide), q3, nI_clamp (by omega), t0, if_neg (nI_pos (by omega)), z_ib (by omega) (by omega), if_pos rfl, if_pos rfl, z_ib (by omega) (by omega), if_pos rfl, nI_clamp (by omega), z_sk_top h5, ← hw, z_ml, nI_1]
            rw [show z_run a b c (10019 :: l) (y :: r) = z_run a b c l (w :: r) by rw [hw]; rfl]
            exact f1
          · rw [f2, z_up_i _ _ _ _ (by omega)]
          · intro b hb; rw [f3 b hb, z_up_k _ _ _ _ hb]
      · rw [if_neg g2] at h3
        obtain ⟨g3, g4, g5, g6⟩ := h3
        match st, g5, h4, h5, g6, sl with
        | y :: x' :: r, g5, h4, h5, g6, sl =>
          obtain ⟨j, hj, rfl⟩ : ∃ j, j < 9 ∧ x = 10010 + j := ⟨x - 10010, by omega, by omega⟩
          obtain ⟨w, hw⟩ : ∃ w : Int32, w = z_two j x' y := ⟨_, rfl⟩
          simp only [z_ato, if_neg (show ¬ 10010 + j < 10003 by omega)] at h4
          simp only [List.length_cons] at g6 h4 sl
          obtain ⟨k1, k2, k3, k4⟩ := keep r.length w (by omega)
          have sk : z_sk (bw_up M (A + 2) r.length w (A + 2)) (w :: r) := z_sk_push (z_sk_tail (z_sk_tail h5)) w
          obtain ⟨M', f1, f2, f3⟩ := ih (k + 1) fu (w :: r) (bw_up M (A + 2) r.length w) k1 k2 k3 k4 (by omega) h2' (by simp only [List.length_cons]; exact g6) (by simp only [List.length_cons]; omega) sk (by omega)
          have t0 : nI (y :: x' :: r).length - 1 = nI (r.length + 1) := by simp only [List.length_cons]; rw [nI_pred]
          have t2 : nI (w :: r).length - 1 = nI r.length := by simp only [List.length_cons]; rw [nI_pred]
          have t3 : nI (r.length + 1) - 1 = nI r.length := nI_pred _
          rw [t2] at f1
          have e1 : z_cenc (10010 + j) < -3 := by
            rcases (by omega : j = 0 ∨ j = 1 ∨ j = 2 ∨ j = 3 ∨ j = 4 ∨ j = 5 ∨ j = 6 ∨ j = 7 ∨ j = 8) with rfl | rfl | rfl | rfl | rfl | rfl | rfl | rfl | rfl <;> decide
          have e2 : ¬ z_cenc (10010 + j) = -33 := by
            rcases (by omega : j = 0 ∨ j = 1 ∨ j = 2 ∨ j = 3 ∨ j = 4 ∨ j = 5 ∨ j = 6 ∨ j = 7 ∨ j = 8) with rfl | rfl | rfl | rfl | rfl | rfl | rfl | rfl | rfl <;> decide
          have e3 : ¬ nI (r.length + 1) < 1 := nI_nlt (b := 1) (by omega) (by omega)
          obtain ⟨p1, p2⟩ := z_sk_top2 h5
          refine ⟨M', ?_, ?_, ?_⟩
          · rw [f_X1_gives_L6, q1, if_pos rfl, hlc, q2, nI_clamp (by omega), if_neg (nI_ge (by omega) (by omega)), z_ib (by omega) (by omega), if_pos rfl, nI_clamp (by omega), hx, z_ml, if_pos e1, if_neg e2, q3, nI_clamp (by omega), t0, if_neg e3, t3, nI_1, z_ib (by omega) (by omega), if_pos rfl, z_ib (by omega) (by omega), if_pos rfl, nI_clamp (by omega), nI_clamp (by omega), p1, p2, z_twoC hj, Option.bind_some, if_pos rfl, z_ib (by omega) (by omega), if_pos rfl, ← hw, z_ml, nI_1]
            have e5 : z_stp a b c (10010 + j) (y :: x' :: r) = w :: r := by
              unfold z_stp
              rw [if_neg (by omega), if_neg (by omega), if_neg (by omega), if_neg (by omega), if_neg (by omega), show 10010 + j - 10010 = j by omega, hw]
            rw [show z_run a b c ((10010 + j) :: l) (y :: x' :: r) = z_run a b c l (w :: r) by rw [z_run, e5]]
            exact f1
          · rw [f2, z_up_i _ _ _ _ (by omega)]
          · intro b hb; rw [f3 b hb, z_up_k _ _ _ _ hb]
/-- the model works a text out -/
theorem z_mGiv {toks : List Nat} {a b c : Int32} {t nm : Nat} (ht : t < 14) (hnm : nm ≤ 3) (hlen : toks.length ≤ 96) : ∀ (l : List Nat) (k fu : Nat) (st : List Int32) (M : Mem), (∀ k, k < toks.length → M 94 (186 + 96 * t + k) = z_menc (toks.getD k 0)) → M 117 0 = a → M 117 1 = b → (nm = 3 → M 117 2 = c) → k + l.length = toks.length → (∀ i, i < l.length → toks.getD (k + i) 0 = l.getD i 0) → z_twf nm l st.length → st.length + z_ato l ≤ z_ato toks → z_sk (M 116) st → l.length < fu → ∃ M', f_X10_worksOut_L22 (nI t) (nI toks.length) fu (nI st.length) (nI k) M = some ((z_run a b c l st).headD 0, M') ∧ ∀ b, b ≠ 116 → M' b = M b := by
  have at96 := z_ato_le toks
  intro l
  induction l with
  | nil =>
    intro k fu st M q4 qa qb qc h1 h2 h3 h4 h5 h6
    obtain ⟨fu, rfl⟩ : ∃ f, fu = f + 1 := ⟨fu - 1, by omega⟩
    simp only [List.length_nil, Nat.add_zero] at h1
    have h3' : st.length = 1 := h3
    have e0 : M 116 0 = st.headD 0 := by
      have := h5 0 (by omega)
      rw [this, h3']
      cases st with
      | nil => simp at h3'
      | cons y r => rfl
    refine ⟨M, ?_, fun _ _ => rfl⟩
    rw [f_X10_worksOut_L22, if_pos (nI_le (by omega) (by omega)), show ((0 : Int32).toNatClampNeg) = 0 from rfl, e0]
    rfl
  | cons x l ih =>
    intro k fu st M q4 qa qb qc h1 h2 h3 h4 h5 h6
    obtain ⟨fu, rfl⟩ : ∃ f, fu = f + 1 := ⟨fu - 1, by omega⟩
    simp only [List.length_cons] at h1 h6
    have hx : M 94 (186 + 96 * t + k) = z_menc x := by
      rw [q4 k (by omega)]
      have := h2 0 (by simp)
      rw [Nat.add_zero] at this
      rw [this]; rfl
    have h2' : ∀ i, i < l.length → toks.getD (k + 1 + i) 0 = l.getD i 0 := by
      intro i hi
      have := h2 (i + 1) (by simp; omega)
      rw [show k + 1 + i = k + (i + 1) by omega, this, List.getD_cons_succ]
    have go : ∀ (p : Nat) (v : Int32) (st' : List Int32), z_twf nm l st'.length → st'.length + z_ato l ≤ z_ato toks → z_sk (bw_up M 116 p v 116) st' → ∃ M', f_X10_worksOut_L22 (nI t) (nI toks.length) fu (nI st'.length) (nI (k + 1)) (bw_up M 116 p v) = some ((z_run a b c l st').headD 0, M') ∧ ∀ b, b ≠ 116 → M' b = M b := by
      intro p v st' e1 e2 e3
      have u : ∀ b, b ≠ 116 → bw_up M 116 p v b = M b := fun b hb => z_up_k _ _ _ _ hb
      obtain ⟨M', f1, f2⟩ := ih (k + 1) fu st' (bw_up M 116 p v) (by rw [u 94 (by omega)]; exact q4) (by rw [u 117 (by omega)]; exact qa) (by rw [u 117 (by omega)]; exact qb) (by rw [u 117 (by omega)]; exact qc) (by omega) h2' e1 e2 e3 (by omega)
      exact ⟨M', f1, fun b hb => by rw [f2 b hb, u b hb]⟩
    have ib : bw_ib (186 + 96 * nI t + nI k) 1530 = true := by rw [l_186, l_96, pk_mul, nI_add, nI_add]; exact z_ib (by omega) (by omega)
    have ic : (186 + 96 * nI t + nI k : Int32).toNatClampNeg = 186 + 96 * t + k := by rw [l_186, l_96, pk_mul, nI_add, nI_add]; exact nI_clamp (by omega)
    rw [z_twf] at h3
    by_cases g : x < 10000 + nm
    · rw [if_pos g] at h3
      simp only [z_ato, if_pos (show x < 10003 by omega)] at h4
      have hx2 : z_menc x = nI x := z_me1 (by omega)
      have push : ∀ v : Int32, z_stp a b c x st = v :: st → (if (10000 : Int32) ≤ nI x then if bw_ib (nI x - (10000 : Int32)) 4 = true then if bw_ib (nI st.length) 96 = true then bw_ml (bw_up M 116 (nI st.length).toNatClampNeg (M 117 (nI x - (10000 : Int32)).toNatClampNeg)) fun M18 => f_X10_worksOut_L22 (nI t) (nI toks.length) fu (nI st.length + 1) (nI k + 1) M18 else none else none else if bw_ib (nI st.length) 96 = true then bw_ml (bw_up M 116 (nI st.length).toNatClampNeg (nI x)) fun M20 => f_X10_worksOut_L22 (nI t) (nI toks.length) fu (nI st.length + 1) (nI k + 1) M20 else none) = f_X10_worksOut_L22 (nI t) (nI toks.length) fu (nI (st.length + 1)) (nI (k + 1)) (bw_up M 116 st.length v) → ∃ M', f_X10_worksOut_L22 (nI t) (nI toks.length) (fu + 1) (nI st.length) (nI k) M = some ((z_run a b c (x :: l) st).headD 0, M') ∧ ∀ b, b ≠ 116 → M' b = M b := by
        intro v e1 e2
        obtain ⟨M', f1, f2⟩ := go st.length v (v :: st) h3 (by simp only [List.length_cons]; omega) (z_sk_push h5 v)
        refine ⟨M', ?_, f2⟩
        rw [f_X10_worksOut_L22, if_neg (nI_ge (by omega) (by omega)), ib, if_pos rfl, ic, hx, hx2, z_ml, if_neg (nI_pos (by omega)), e2]
        rw [show z_run a b c (x :: l) st = z_run a b c l (v :: st) by rw [z_run, e1]]
        exact f1
      by_cases g1 : x < 10000
      · refine push (nI x) ?_ ?_
        · unfold z_stp; rw [if_pos g1]
        · rw [l_10000, if_neg (nI_ge (by omega) (by omega)), z_ib (by omega) (by omega), if_pos rfl, nI_clamp (by omega), z_ml, nI_1, nI_1]
      · have nm3 : ∀ i, i < 3 → x = 10000 + i → (if (10000 : Int32) ≤ nI x then if bw_ib (nI x - (10000 : Int32)) 4 = true then if bw_ib (nI st.length) 96 = true then bw_ml (bw_up M 116 (nI st.length).toNatClampNeg (M 117 (nI x - (10000 : Int32)).toNatClampNeg)) fun M18 => f_X10_worksOut_L22 (nI t) (nI toks.length) fu (nI st.length + 1) (nI k + 1) M18 else none else none else if bw_ib (nI st.length) 96 = true then bw_ml (bw_up M 116 (nI st.length).toNatClampNeg (nI x)) fun M20 => f_X10_worksOut_L22 (nI t) (nI toks.length) fu (nI st.length + 1) (nI k + 1) M20 else none) = f_X10_worksOut_L22 (nI t) (nI toks.length) fu (nI (st.length + 1)) (nI (k + 1)) (bw_up M 116 st.length (M 117 i)) := by
          intro i hi e
          rw [l_10000, if_pos (nI_le (by omega) (by omega)), pk_sub (by omega), z_ib (by omega) (by omega), if_pos rfl, z_ib (by omega) (by omega), if_pos rfl, nI_clamp (by omega), nI_clamp (by omega), z_ml, nI_1, nI_1, show x - 10000 = i by omega]
        rcases (by omega : x = 10000 ∨ x = 10001 ∨ (x = 10002 ∧ nm = 3)) with e | e | ⟨e, en⟩
        · refine push a ?_ ?_
          · subst e; rfl
          · rw [nm3 0 (by omega) (by omega), qa]
        · refine push b ?_ ?_
          · subst e; rfl
          · rw [nm3 1 (by omega) (by omega), qb]
        · refine push c ?_ ?_
          · subst e; rfl
          · rw [nm3 2 (by omega) (by omega), qc en]
    · rw [if_neg g] at h3
      by_cases g2 : x = 10019
      · rw [if_pos g2] at h3
        subst g2
        cases st with
        | nil => simp at h3
        | cons y r =>
          obtain ⟨w, hw⟩ : ∃ w : Int32, w = if y = 0 then 1 else 0 := ⟨_, rfl⟩
          simp only [z_ato] at h4
          simp only [List.length_cons] at h3 h4
          obtain ⟨M', f1, f2⟩ := go r.length w (w :: r) (by simp only [List.length_cons]; exact h3.2) (by simp only [List.length_cons]; omega) (z_sk_push (z_sk_tail h5) w)
          have t0 : nI (y :: r).length - 1 = nI r.length := by simp only [List.length_cons]; rw [nI_pred]
          refine ⟨M', ?_, f2⟩
          rw [f_X10_worksOut_L22, if_neg (nI_ge (by omega) (by omega)), ib, if_pos rfl, ic, hx, z_ml, if_pos (by decide), if_pos (by decide), t0, z_ib (by omega) (by omega), if_pos rfl, nI_clamp (by omega), z_sk_top h5, ← hw, z_ml, nI_1]
          rw [show z_run a b c (10019 :: l) (y :: r) = z_run a b c l (w :: r) by rw [hw]; rfl]
          exact f1
      · rw [if_neg g2] at h3
        obtain ⟨g3, g4, g5, g6⟩ := h3
        match st, g5, h4, h5, g6 with
        | y :: x' :: r, g5, h4, h5, g6 =>
          obtain ⟨j, hj, rfl⟩ : ∃ j, j < 9 ∧ x = 10010 + j := ⟨x - 10010, by omega, by omega⟩
          obtain ⟨w, hw⟩ : ∃ w : Int32, w = z_two j x' y := ⟨_, rfl⟩
          simp only [z_ato, if_neg (show ¬ 10010 + j < 10003 by omega)] at h4
          simp only [List.length_cons] at g6 h4
          obtain ⟨M', f1, f2⟩ := go r.length w (w :: r) (by simp only [List.length_cons]; exact g6) (by simp only [List.length_cons]; omega) (z_sk_push (z_sk_tail (z_sk_tail h5)) w)
          have t0 : nI (y :: x' :: r).length - 1 = nI (r.length + 1) := by simp only [List.length_cons]; rw [nI_pred]
          have t3 : nI (r.length + 1) - 1 = nI r.length := nI_pred _
          have e0 : z_menc (10010 + j) = -(nI (j + 1)) := by
            unfold z_menc; rw [if_neg (by omega), show 10010 + j - 10009 = j + 1 by omega]
          have e1 : z_menc (10010 + j) < 0 := by
            rcases (by omega : j = 0 ∨ j = 1 ∨ j = 2 ∨ j = 3 ∨ j = 4 ∨ j = 5 ∨ j = 6 ∨ j = 7 ∨ j = 8) with rfl | rfl | rfl | rfl | rfl | rfl | rfl | rfl | rfl <;> decide
          have e2 : ¬ z_menc (10010 + j) = -10 := by
            rcases (by omega : j = 0 ∨ j = 1 ∨ j = 2 ∨ j = 3 ∨ j = 4 ∨ j = 5 ∨ j = 6 ∨ j = 7 ∨ j = 8) with rfl | rfl | rfl | rfl | rfl | rfl | rfl | rfl | rfl <;> decide
          obtain ⟨p1, p2⟩ := z_sk_top2 h5
          refine ⟨M', ?_, f2⟩
          rw [f_X10_worksOut_L22, if_neg (nI_ge (by omega) (by omega)), ib, if_pos rfl, ic, hx, z_ml, if_pos e1, if_neg e2, t0, t3, z_ib (by omega) (by omega), if_pos rfl, z_ib (by omega) (by omega), if_pos rfl, nI_clamp (by omega), nI_clamp (by omega), p1, p2, e0, z_twoM hj, Option.bind_some, ← hw, z_ml, nI_1]
          have e5 : z_stp a b c (10010 + j) (y :: x' :: r) = w :: r := by
            unfold z_stp
            rw [if_neg (by omega), if_neg (by omega), if_neg (by omega), if_neg (by omega), if_neg (by omega), show 10010 + j - 10010 = j by omega, hw]
          rw [show z_run a b c ((10010 + j) :: l) (y :: x' :: r) = z_run a b c l (w :: r) by rw [z_run, e5]]
          exact f1
theorem z_nms3 (k : Nat) : z_nms k ≤ 3 := by unfold z_nms; split <;> omega
/-- the class: what the law of a text gives -/
theorem z_giv {M : Mem} {S R t n : Nat} {u : TU} (a b c : Int32) (h : z_Txt M S R t u) (hL : z_Lws n M) (h32 : z_Lok M (M (S + 7) t)) : ∃ M', f_X1_gives M (nI u.1) a b c = some (z_val a b c u.2.2, M') ∧ M' (z_lcN u.1 + 2) 1000 = M (z_lcN u.1 + 2) 1000 ∧ ∀ b, b ≠ z_lcN u.1 + 2 → M' b = M b := by
  have hfu : 100 < bw_fu := by decide
  obtain ⟨q1, q2, q3, q4, q5, q6, q7, q8, q9⟩ := z_tf h hL h32
  obtain ⟨-, ⟨-, -, -, -, k5⟩, ⟨-, -, a3, a4, a5⟩, -⟩ := h
  have := z_cGiv (u := u) (a := a) (b := b) (c := c) (A := z_lcN u.1) (nm := z_nms u.2.1) rfl q4 (z_nms3 _) q8 u.2.2 0 bw_fu [] M q3 a3 a4 a5 (by omega) (fun i _ => by rw [Nat.zero_add]) k5 (by simp) (fun i hi => by simp at hi) (by omega)
  rw [show nI ([] : List Int32).length - 1 = -1 by decide, show nI 0 = 0 from rfl] at this
  exact this
theorem z_wrk {M : Mem} {S t : Nat} {u : TU} {a b c : Int32} (ht : t < 14) (h : z_Txt M S 94 t u) (qa : M 117 0 = a) (qb : M 117 1 = b) (qc : u.2.1 = 0 → M 117 2 = c) : ∃ M', f_X10_worksOut M (nI t) = some (z_val a b c u.2.2, M') ∧ ∀ b, b ≠ 116 → M' b = M b := by
  have hfu : 100 < bw_fu := by decide
  obtain ⟨-, ⟨k1, k2, k3, k4, k5⟩, -, g4, -, g6⟩ := h
  obtain ⟨M', e1, e2⟩ := z_mGiv (toks := u.2.2) (a := a) (b := b) (c := c) (t := t) (nm := z_nms u.2.1) ht (z_nms3 _) k4 u.2.2 0 bw_fu [] M g6 qa qb (by intro h; apply qc; unfold z_nms at h; split at h <;> omega) (by omega) (fun i _ => by rw [Nat.zero_add]) k5 (by simp) (fun i hi => by simp at hi) (by omega)
  refine ⟨M', ?_, e2⟩
  have i1 : bw_ib (158 + 2 * nI t) 1530 = true := by rw [l_158, l_2, pk_mul, nI_add]; exact z_ib (by omega) (by omega)
  have i2 : (158 + 2 * nI t : Int32).toNatClampNeg = 158 + 2 * t := by rw [l_158, l_2, pk_mul, nI_add]; exact nI_clamp (by omega)
  unfold f_X10_worksOut
  rw [i1, if_pos rfl, i2, g4, z_ml, l_1000, z_remN (by omega) (by omega) (by omega), show (1000 * u.2.1 + u.2.2.length) % 1000 = u.2.2.length by omega]
  exact e1
