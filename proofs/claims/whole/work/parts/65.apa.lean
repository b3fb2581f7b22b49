/-! level 2: apart -/
def z_ki (p : Nat → Bool) : Nat → List Nat
  | 0 => []
  | i + 1 => if p i = true then z_ki p i ++ [i] else z_ki p i
theorem z_ki_len (p : Nat → Bool) : ∀ i, (z_ki p i).length ≤ i := by
  intro i
  induction i with
  | zero => simp [z_ki]
  | succ i ih =>
    rw [z_ki]
    split
    · simp; omega
    · omega
theorem z_gdA (x : Nat) : ∀ (l : List Nat) (k : Nat), k ≤ l.length → (l ++ [x]).getD k 0 = if k = l.length then x else l.getD k 0 := by
  intro l
  induction l with
  | nil => intro k h; simp at h; subst h; simp
  | cons y l ih =>
    intro k h
    cases k with
    | zero => simp
    | succ k =>
      simp only [List.length_cons] at h
      rw [List.cons_append, List.getD_cons_succ, List.getD_cons_succ, ih k (by omega)]
      by_cases e : k = l.length
      · rw [if_pos e, if_pos (by simp [e])]
      · rw [if_neg e, if_neg (by simp; exact e)]
theorem z_ki_lt (p : Nat → Bool) : ∀ i k, k < (z_ki p i).length → (z_ki p i).getD k 0 < i := by
  intro i
  induction i with
  | zero => intro k hk; simp [z_ki] at hk
  | succ i ih =>
    intro k hk
    rw [z_ki] at hk ⊢
    by_cases g : p i = true
    · rw [if_pos g] at hk ⊢
      by_cases e : k < (z_ki p i).length
      · have := ih k e
        rw [z_gdA _ _ _ (by omega), if_neg (by omega)]; omega
      · simp at hk
        rw [z_gdA _ _ _ (by omega), if_pos (by omega)]; omega
    · rw [if_neg g] at hk ⊢
      have := ih k hk; omega
theorem z_ki_cg {p q : Nat → Bool} : ∀ i, (∀ j, j < i → p j = q j) → z_ki p i = z_ki q i := by
  intro i
  induction i with
  | zero => intro _; rfl
  | succ i ih => intro h; rw [z_ki, z_ki, ih (fun j hj => h j (by omega)), h i (by omega)]
def z_kH (s : Nat → Nat) (K : List Nat) (k : Nat) : Nat := z_sH s (K.getD k 0)
def z_kT (s : Nat → Nat) (K : List Nat) (k : Nat) : Nat := z_sT s (K.getD k 0)
def z_pb (s : Nat → Nat) (t : Nat) (b : Bool) : Nat → Bool := fun i => decide (t ≤ z_sH s i) == b
theorem z_kBd {s : Nat → Nat} {t : Nat} {b : Bool} (hW : z_W s) : z_Bd (z_ki (z_pb s t b) (s 4)).length (s 1) (s 2) (s 7) (z_kH s (z_ki (z_pb s t b) (s 4))) (z_kT s (z_ki (z_pb s t b) (s 4))) (fun _ => 0) (z_sA s) := by
  obtain ⟨b1, b2, b3, b4, b5, b6⟩ := z_BdS hW
  have := z_ki_len (z_pb s t b) (s 4)
  refine ⟨by omega, b2, b3, b4, ?_, b6⟩
  intro j hj
  obtain ⟨x1, x2, x3, x4⟩ := b5 _ (z_ki_lt _ _ j hj)
  exact ⟨x1, x2, x3, Nat.zero_le 1⟩
theorem z_kGet {p : Nat → Bool} {i : Nat} (g : p i = true) (f : Nat → Nat) : ∀ k, k < (z_ki p (i + 1)).length → f ((z_ki p (i + 1)).getD k 0) = if k = (z_ki p i).length then f i else f ((z_ki p i).getD k 0) := by
  intro k hk
  rw [z_ki, if_pos g] at hk ⊢
  by_cases e : k = (z_ki p i).length
  · rw [if_pos e, z_gdA _ _ _ (by omega), if_pos e]
  · simp at hk
    rw [if_neg e, z_gdA _ _ _ (by omega), if_neg e]
theorem z_kL {s : Nat → Nat} {t m : Nat} {b : Bool} {M0 : Mem} (ht : t ≤ 100) (hm : m ≤ 24) (h0 : M0 25 0 = nI m) (hB : ∀ i, i < m → M0 26 i = nI (z_sH s i) ∧ M0 27 i = nI (z_sT s i) ∧ z_sH s i ≤ 99) : ∀ r i fu (M : Mem), i + r = m → r < fu → (∀ b', 25 ≤ b' → b' ≤ 27 → M b' = M0 b') → M 1 0 = nI (z_ki (z_pb s t b) i).length → (∀ k, k < (z_ki (z_pb s t b) i).length → M 2 k = nI (z_kH s (z_ki (z_pb s t b) i) k) ∧ M 3 k = nI (z_kT s (z_ki (z_pb s t b) i) k) ∧ M 4 k = nI 0) → ∃ M', f_X2_keepOnly_L8 25 (nI t) (if b = true then 1 else 0) fu (nI i) M = some M' ∧ M' 1 0 = nI (z_ki (z_pb s t b) m).length ∧ (∀ k, k < (z_ki (z_pb s t b) m).length → M' 2 k = nI (z_kH s (z_ki (z_pb s t b) m) k) ∧ M' 3 k = nI (z_kT s (z_ki (z_pb s t b) m) k) ∧ M' 4 k = nI 0) ∧ (∀ x, x ≠ 0 → M' 1 x = M 1 x) ∧ ∀ b', b' = 0 ∨ 4 < b' → M' b' = M b' := by
  intro r
  induction r with
  | zero =>
    intro i fu M h1 h2 h3 h4 h5
    obtain ⟨fu, rfl⟩ : ∃ f, fu = f + 1 := ⟨fu - 1, by omega⟩
    have : i = m := by omega
    subst this
    refine ⟨M, ?_, h4, h5, fun _ _ => rfl, fun _ _ => rfl⟩
    rw [f_X2_keepOnly_L8, h3 25 (by omega) (by omega), h0, if_pos (nI_le (by omega) (by omega))]
  | succ r ih =>
    intro i fu M h1 h2 h3 h4 h5
    obtain ⟨fu, rfl⟩ : ∃ f, fu = f + 1 := ⟨fu - 1, by omega⟩
    obtain ⟨x1, x2, x3⟩ := hB i (by omega)
    have kl := z_ki_len (z_pb s t b) i
    have cond : ((if nI (z_sH s i) < nI t then (0 : Int32) else 1) = (if b = true then 1 else 0)) ↔ z_pb s t b i = true := by
      unfold z_pb
      by_cases g : t ≤ z_sH s i
      · rw [if_neg (nI_nlt g (by omega))]
        cases b <;> simp [g]
      · rw [if_pos (nI_lt (by omega) (by omega))]
        cases b <;> simp [g]
    rw [f_X2_keepOnly_L8, h3 25 (by omega) (by omega), h0, if_neg (nI_ge (by omega) (by omega)), z_ib (by omega) (by omega), if_pos rfl, nI_clamp (by omega), show 25 + 1 = 26 from rfl, h3 26 (by omega) (by omega), x1, nI_1]
    by_cases g : z_pb s t b i = true
    · rw [if_pos (cond.mpr g)]
      obtain ⟨M1, hM1⟩ : ∃ M1, M1 = bw_up (bw_up (bw_up (bw_up M 2 (z_ki (z_pb s t b) i).length (nI (z_sH s i))) 3 (z_ki (z_pb s t b) i).length (nI (z_sT s i))) 4 (z_ki (z_pb s t b) i).length (nI 0)) 1 0 (nI ((z_ki (z_pb s t b) i).length + 1)) := ⟨_, rfl⟩
      have o : ∀ b', b' = 0 ∨ 4 < b' → M1 b' = M b' := by intro b' hb'; rw [hM1]; simp (disch := omega) only [z_up_k]
      have o1 : ∀ x, x ≠ 0 → M1 1 x = M 1 x := by intro x hx; rw [hM1, z_up_i _ _ _ _ hx]; simp (disch := omega) only [z_up_k]
      have kl1 : (z_ki (z_pb s t b) (i + 1)).length = (z_ki (z_pb s t b) i).length + 1 := by rw [z_ki, if_pos g]; simp
      obtain ⟨M', e1, e2, e3, e4, e5⟩ := ih (i + 1) fu M1 (by omega) (by omega) (by intro b' g1 g2; rw [o b' (by omega)]; exact h3 b' g1 g2) (by rw [hM1, z_up_s, kl1]) (by
        intro k hk
        have q1 := z_kGet g (z_sH s) k hk
        have q2 := z_kGet g (z_sT s) k hk
        unfold z_kH z_kT
        rw [q1, q2, hM1]
        by_cases e : k = (z_ki (z_pb s t b) i).length
        · subst e
          simp (disch := omega) only [z_up, if_pos, if_neg, ite_true, ite_false, and_self, and_true, true_and, and_false, false_and]
        · have := h5 k (by omega)
          simp (disch := omega) only [z_up, if_pos, if_neg, ite_true, ite_false, and_self, and_true, true_and, and_false, false_and]; exact this)
      refine ⟨M', ?_, e2, e3, fun x hx => by rw [e4 x hx, o1 x hx], fun b' hb' => by rw [e5 b' hb', o b' hb']⟩
      have r27 : M 27 i = nI (z_sT s i) := by rw [h3 27 (by omega) (by omega)]; exact x2
      simp (disch := omega) only [h4, z_ml, z_ib, nI_clamp, z_up_k, if_true, show 25 + 2 = 27 from rfl, r27, nI_1]
      rw [show bw_nz 0 = nI 0 from z_nz0, ← hM1]
      exact e1
    · rw [if_neg (fun h => g (cond.mp h))]
      have kl1 : z_ki (z_pb s t b) (i + 1) = z_ki (z_pb s t b) i := by rw [z_ki, if_neg g]
      have := ih (i + 1) fu M (by omega) (by omega) h3 (by rw [kl1]; exact h4) (by rw [kl1]; exact h5)
      exact this
theorem z_keep {s : Nat → Nat} {u : Nat → TU} {t m' : Nat} {b : Bool} {M M0 : Mem} {h' t' d' : Nat → Nat} {lw : Option TU} (ht : t ≤ 100) (hS : z_Stk M0 25 94 s u) (h25 : ∀ b', 25 ≤ b' → b' ≤ 27 → M b' = M0 b') (hp : z_Pl m' (s 1) (s 2) (s 7) h' t' d' (z_sA s) lw M) : ∃ M', f_X2_keepOnly M 25 (nI t) (if b = true then 1 else 0) = some M' ∧ z_Pl (z_ki (z_pb s t b) (s 4)).length (s 1) (s 2) (s 7) (z_kH s (z_ki (z_pb s t b) (s 4))) (z_kT s (z_ki (z_pb s t b) (s 4))) (fun _ => 0) (z_sA s) lw M' ∧ z_Cf M M' ∧ ∀ k, 5 ≤ k → M' k = M k := by
  have hfu : 100 < bw_fu := by decide
  obtain ⟨hW, hM, hz, c1, c2, c3, c4, hT⟩ := hS
  have w1 : s 4 ≤ 24 := hW.1.1
  obtain ⟨M', e1, e2, e3, e4, e5⟩ := z_kL (s := s) (t := t) (m := s 4) (b := b) (M0 := M0) ht w1 c1.1 (fun i hi => ⟨(c2 i hi).1, (c2 i hi).2.1, (hW.2.1 i hi).2.1⟩) (s 4) 0 bw_fu (bw_up M 1 0 (nI 0)) (by omega) (by omega) (by intro b' g1 g2; rw [z_up_k _ _ _ _ (by omega)]; exact h25 b' g1 g2) (by rw [z_up_s]; rfl) (fun k hk => by simp [z_ki] at hk)
  have o : ∀ b', b' = 0 ∨ 4 < b' → M' b' = M b' := by intro b' hb'; rw [e5 b' hb', z_up_k _ _ _ _ (by omega)]
  have r1 : ∀ x, x ≠ 0 → M' 1 x = M 1 x := by intro x hx; rw [e4 x hx, z_up_i _ _ _ _ hx]
  have cf : z_Cf M M' := z_Cf_b (fun b' hb' => o b' (by omega))
  obtain ⟨p1, p2, p3, p4, p5, p6, p7, p8⟩ := hp
  refine ⟨M', ?_, ⟨e2, by rw [r1 4 (by omega)]; exact p2, by rw [r1 5 (by omega)]; exact p3, by rw [r1 9 (by omega)]; exact p4, e3, by rw [o 5 (by omega)]; exact p6, ?_, by rw [o 6 (by omega)]; exact p8⟩, cf, fun k hk => o k (by omega)⟩
  · unfold f_X2_keepOnly; rw [z_ml]
    have e1' : f_X2_keepOnly_L8 25 (nI t) (if b = true then 1 else 0) bw_fu (nI 0) (bw_up M 1 0 (nI 0)) = some M' := e1
    rw [show nI 0 = 0 from rfl] at e1'
    exact e1'
  · cases lw with
    | none => dsimp only at p7 ⊢; rw [r1 7 (by omega)]; exact p7
    | some v => dsimp only at p7 ⊢; rw [r1 7 (by omega)]; exact ⟨p7.1, z_LOK_fr cf p7.2⟩
