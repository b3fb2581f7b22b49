/-! level 2: few, the class -/
theorem z_ul_mem {p : Nat → Bool} : ∀ r i k, k < (z_ul p r i).length → i ≤ (z_ul p r i).getD k 0 ∧ (z_ul p r i).getD k 0 < i + r := by
  intro r
  induction r with
  | zero => intro i k hk; simp [z_ul] at hk
  | succ r ih =>
    intro i k hk
    simp only [z_ul] at hk ⊢
    by_cases g : p i = true
    · rw [if_pos g] at hk ⊢
      cases k with
      | zero => rw [List.getD_cons_zero]; omega
      | succ k =>
        rw [List.getD_cons_succ]
        have := ih (i + 1) k (by simp only [List.length_cons] at hk; omega)
        omega
    · rw [if_neg g] at hk ⊢
      have := ih (i + 1) k hk
      omega
def z_fA (L : List Nat) (k n : Nat) (p : Nat × Nat) (i : Nat) : Nat := if i + 1 = k then L.getD n 0 else if i = 0 then L.getD p.1 0 else L.getD p.2 0
def z_fs (V : (Nat → Nat) → Option Nat) (B : Option Nat × (Nat → Nat)) (A : Nat → Nat) : Option Nat × (Nat → Nat) := match V A with
  | none => B
  | some q => match B.1 with
    | none => (some q, A)
    | some p => if p ≤ q then B else (some q, A)
def z_nx (k n : Nat) (p : Nat × Nat) : Option (Nat × Nat) := if k = 1 then none else if k = 2 then (if p.1 + 1 < n then some (p.1 + 1, p.2) else none) else (if p.2 + 1 < n then some (p.1, p.2 + 1) else if p.1 + 2 < n then some (p.1 + 1, p.1 + 2) else none)
def z_rn (k n : Nat) (st : Option Nat × (Nat → Nat) → Nat × Nat → Option Nat × (Nat → Nat)) : Nat → Option (Nat × Nat) → Option Nat × (Nat → Nat) → Option (Option Nat × (Nat → Nat))
  | 0, x, B => (match x with
    | none => some B
    | some _ => none)
  | r + 1, x, B => (match x with
    | none => some B
    | some p => z_rn k n st r (z_nx k n p) (st B p))
theorem z_us1 {M : Mem} {k n i fu : Nat} (hk : k ≤ 3) (hn : n < 24) (hi : i + 1 = k) : f_X9_usePick_L2 (nI k) (nI (n + 1)) (fu + 1) (nI i) M = some (bw_up (bw_up M 5 i (M 21 n)) 1 9 (nI k)) := by
  have e1 : nI k - 1 = nI i := by rw [l_1, pk_sub (by omega)]; congr 1; omega
  have e2 : nI (n + 1) - 1 = nI n := by rw [l_1, pk_sub (by omega)]; rfl
  rw [f_X9_usePick_L2, e1, e2, if_pos (nI_le (by omega) (by omega)), z_ib (by omega) (by omega), if_pos rfl, z_ib (by omega) (by omega), if_pos rfl, nI_clamp (by omega), nI_clamp (by omega), z_ml, z_ml]
theorem z_us2 {M : Mem} {k n i a fu : Nat} (hk : k ≤ 3) (hi : i + 1 < k) (ha : a < 24) (h22 : M 22 i = nI a) : f_X9_usePick_L2 (nI k) (nI (n + 1)) (fu + 1) (nI i) M = f_X9_usePick_L2 (nI k) (nI (n + 1)) fu (nI (i + 1)) (bw_up M 5 i (M 21 a)) := by
  have e1 : nI k - 1 = nI (k - 1) := by rw [l_1, pk_sub (by omega)]
  rw [f_X9_usePick_L2, e1, if_neg (nI_ge (by omega) (by omega)), z_ib (by omega) (by omega), if_pos rfl, nI_clamp (by omega), h22, z_ib (by omega) (by omega), if_pos rfl, z_ib (by omega) (by omega), if_pos rfl, nI_clamp (by omega), z_ml, nI_1]
theorem z_cUse {M : Mem} {L : List Nat} {k n : Nat} {p : Nat × Nat} (hk1 : 1 ≤ k) (hk : k ≤ 3) (hn : n < 24) (hp1 : p.1 ≤ n) (hp2 : p.2 ≤ n) (h21 : ∀ i, i ≤ n → M 21 i = nI (L.getD i 0)) (ha : 2 ≤ k → M 22 0 = nI p.1) (hb : 3 ≤ k → M 22 1 = nI p.2) : ∃ M', f_X9_usePick M (nI k) (nI (n + 1)) = some M' ∧ (∀ i, i < k → M' 5 i = nI (z_fA L k n p i)) ∧ M' 1 9 = nI k ∧ (∀ x, x ≠ 9 → M' 1 x = M 1 x) ∧ ∀ b, b ≠ 1 → b ≠ 5 → M' b = M b := by
  obtain ⟨f, hf⟩ : ∃ f, bw_fu = f + 1 + 1 + 1 := ⟨1997, rfl⟩
  unfold f_X9_usePick
  rw [hf, l_0]
  by_cases k1 : k = 1
  · refine ⟨_, z_us1 hk hn (by omega), ?_, z_up_s _ _ _ _, ?_, ?_⟩
    · intro i hi
      have : i = 0 := by omega
      subst this
      rw [z_up_k _ _ _ _ (by omega), z_up_s, h21 n (by omega)]
      unfold z_fA
      rw [if_pos (by omega)]
    · intro x hx; rw [z_up_i _ _ _ _ hx, z_up_k _ _ _ _ (by omega)]
    · intro b g1 g2; rw [z_up_k _ _ _ _ g1, z_up_k _ _ _ _ g2]
  · rw [z_us2 hk (by omega) (by omega) (ha (by omega))]
    by_cases k2 : k = 2
    · refine ⟨_, z_us1 hk hn (by omega), ?_, z_up_s _ _ _ _, ?_, ?_⟩
      · intro i hi
        unfold z_fA
        by_cases i0 : i = 0
        · subst i0
          rw [if_neg (by omega), if_pos rfl, z_up_k _ _ _ _ (by omega), z_up_i _ _ _ _ (by omega), z_up_s, h21 _ hp1]
        · have : i = 1 := by omega
          subst this
          rw [if_pos (by omega), z_up_k _ _ _ _ (by omega), z_up_s, z_up_k _ _ _ _ (by omega), h21 n (by omega)]
      · intro x hx; rw [z_up_i _ _ _ _ hx, z_up_k _ _ _ _ (by omega), z_up_k _ _ _ _ (by omega)]
      · intro b g1 g2; rw [z_up_k _ _ _ _ g1, z_up_k _ _ _ _ g2, z_up_k _ _ _ _ g2]
    · rw [z_us2 (a := p.2) hk (by omega) (by omega) (by rw [z_up_k _ _ _ _ (by omega)]; exact hb (by omega))]
      refine ⟨_, z_us1 hk hn (by omega), ?_, z_up_s _ _ _ _, ?_, ?_⟩
      · intro i hi
        unfold z_fA
        by_cases i0 : i = 0
        · subst i0
          rw [if_neg (by omega), if_pos rfl, z_up_k _ _ _ _ (by omega), z_up_i _ _ _ _ (by omega), z_up_i _ _ _ _ (by omega), z_up_s, h21 _ hp1]
        · by_cases i1 : i = 1
          · subst i1
            rw [if_neg (by omega), if_neg (by omega), z_up_k _ _ _ _ (by omega), z_up_i _ _ _ _ (by omega), z_up_s, z_up_k _ _ _ _ (by omega), h21 _ hp2]
          · have : i = 2 := by omega
            subst this
            rw [if_pos (by omega), z_up_k _ _ _ _ (by omega), z_up_s, z_up_k _ _ _ _ (by omega), z_up_k _ _ _ _ (by omega), h21 n (by omega)]
      · intro x hx; rw [z_up_i _ _ _ _ hx, z_up_k _ _ _ _ (by omega), z_up_k _ _ _ _ (by omega), z_up_k _ _ _ _ (by omega)]
      · intro b g1 g2; rw [z_up_k _ _ _ _ g1, z_up_k _ _ _ _ g2, z_up_k _ _ _ _ g2, z_up_k _ _ _ _ g2]
theorem z_np1 {M : Mem} {v1 v2 v3 : Int32} {fu : Nat} (h : v3 = -1) : f_X9_nextPick_L4 M v1 v2 (fu + 1) v3 = some (0, M) := by
  rw [f_X9_nextPick_L4, h, if_pos (by decide)]
theorem z_np2 {M : Mem} {c n i a fu : Nat} (hi : i < c) (hc : c ≤ 2) (hn : n < 24) (ha : a ≤ n) (hcn : c ≤ n) (h22 : M 22 i = nI a) : f_X9_nextPick_L4 M (nI c) (nI n) (fu + 1) (nI i) = if n - (c - i) ≤ a then f_X9_nextPick_L4 M (nI c) (nI n) fu (nI i - 1) else f_X9_nextPick_L37 (nI c) bw_fu (nI (i + 1)) (bw_up M 22 i (nI (a + 1))) := by
  rw [f_X9_nextPick_L4, if_neg (nI_pos (by omega)), z_ib (by omega) (by omega), if_pos rfl, nI_clamp (by omega), h22, pk_sub (by omega), pk_sub (by omega)]
  by_cases g : n - (c - i) ≤ a
  · rw [if_pos (nI_le g (by omega)), if_pos g]
  · rw [if_neg (nI_ge (by omega) (by omega)), if_neg g, z_ml, nI_1, nI_1]
theorem z_np3 {M : Mem} {c fu : Nat} (hc : c ≤ 2) : f_X9_nextPick_L37 (nI c) (fu + 1) (nI c) M = some (1, M) := by
  rw [f_X9_nextPick_L37, if_pos (nI_le (by omega) (by omega))]
theorem z_np4 {M : Mem} {c i a fu : Nat} (hc : c ≤ 2) (hi : i + 1 < c) (h22 : M 22 i = nI a) : f_X9_nextPick_L37 (nI c) (fu + 1) (nI (i + 1)) M = f_X9_nextPick_L37 (nI c) fu (nI (i + 2)) (bw_up M 22 (i + 1) (nI (a + 1))) := by
  have e : nI (i + 1) - 1 = nI i := by rw [l_1, pk_sub (by omega)]; rfl
  rw [f_X9_nextPick_L37, if_neg (nI_ge (by omega) (by omega)), e, z_ib (by omega) (by omega), if_pos rfl, z_ib (by omega) (by omega), if_pos rfl, nI_clamp (by omega), nI_clamp (by omega), h22, z_ml, nI_1, nI_1]
def z_fl1 (x : Option (Nat × Nat)) : Int32 := match x with
  | none => 0
  | some _ => 1
theorem z_cNx {M : Mem} {k n : Nat} {p : Nat × Nat} (hk1 : 1 ≤ k) (hk : k ≤ 3) (hn : n < 24) (hkn : k ≤ n + 1) (hp1 : p.1 ≤ n) (hp2 : p.2 ≤ n) (ha : 2 ≤ k → M 22 0 = nI p.1) (hb : 3 ≤ k → M 22 1 = nI p.2) : ∃ M', f_X9_nextPick M (nI k - 1) (nI (n + 1) - 1) = some (z_fl1 (z_nx k n p), M') ∧ (∀ b, b ≠ 22 → M' b = M b) ∧ ∀ p', z_nx k n p = some p' → (2 ≤ k → M' 22 0 = nI p'.1) ∧ (3 ≤ k → M' 22 1 = nI p'.2) ∧ p'.1 ≤ n ∧ p'.2 ≤ n := by
  obtain ⟨f, hf⟩ : ∃ f, bw_fu = f + 1 + 1 + 1 := ⟨1997, rfl⟩
  have e2 : nI (n + 1) - 1 = nI n := by rw [l_1, pk_sub (by omega)]; rfl
  have e1 : nI k - 1 = nI (k - 1) := by rw [l_1, pk_sub (by omega)]
  unfold f_X9_nextPick
  rw [e2, e1]
  by_cases k1 : k = 1
  · subst k1
    have x : z_nx 1 n p = none := by unfold z_nx; rw [if_pos rfl]
    rw [x]
    refine ⟨M, ?_, fun _ _ => rfl, fun p' h => by simp at h⟩
    rw [hf, z_np1 (by decide)]; rfl
  · by_cases k2 : k = 2
    · subst k2
      have e3 : nI (2 - 1) - 1 = nI 0 := by decide
      rw [hf, e3, z_np2 (a := p.1) (by omega) (by omega) hn hp1 (by omega) (ha (by omega))]
      by_cases g : n - (2 - 1 - 0) ≤ p.1
      · have x : z_nx 2 n p = none := by unfold z_nx; rw [if_neg (by omega), if_pos rfl, if_neg (by omega)]
        rw [x, if_pos g, z_np1 (by decide)]
        exact ⟨M, rfl, fun _ _ => rfl, fun p' h => by simp at h⟩
      · have x : z_nx 2 n p = some (p.1 + 1, p.2) := by unfold z_nx; rw [if_neg (by omega), if_pos rfl, if_pos (by omega)]
        rw [x, if_neg g, hf, show nI (0 + 1) = nI (2 - 1) from rfl, z_np3 (by omega)]
        refine ⟨_, rfl, fun b hb' => z_up_k _ _ _ _ hb', ?_⟩
        intro p' h
        injection h with h
        subst h
        exact ⟨fun _ => z_up_s _ _ _ _, fun h => by omega, by dsimp only; omega, hp2⟩
    · have k3 : k = 3 := by omega
      subst k3
      have e3 : nI (3 - 1) - 1 = nI 1 := by decide
      rw [hf, e3, z_np2 (a := p.2) (by omega) (by omega) hn hp2 (by omega) (hb (by omega))]
      by_cases g : n - (3 - 1 - 1) ≤ p.2
      · rw [if_pos g, show nI 1 - 1 = nI 0 by decide, z_np2 (a := p.1) (by omega) (by omega) hn hp1 (by omega) (ha (by omega))]
        by_cases g2 : n - (3 - 1 - 0) ≤ p.1
        · have x : z_nx 3 n p = none := by unfold z_nx; rw [if_neg (by omega), if_neg (by omega), if_neg (by omega), if_neg (by omega)]
          rw [x, if_pos g2, z_np1 (by decide)]
          exact ⟨M, rfl, fun _ _ => rfl, fun p' h => by simp at h⟩
        · have x : z_nx 3 n p = some (p.1 + 1, p.1 + 2) := by unfold z_nx; rw [if_neg (by omega), if_neg (by omega), if_neg (by omega), if_pos (by omega)]
          rw [x, if_neg g2, hf, z_np4 (a := p.1 + 1) (by omega) (by omega) (z_up_s _ _ _ _), show nI (0 + 2) = nI (3 - 1) from rfl, z_np3 (by omega)]
          refine ⟨_, rfl, fun b hb' => by rw [z_up_k _ _ _ _ hb', z_up_k _ _ _ _ hb'], ?_⟩
          intro p' h
          injection h with h
          subst h
          exact ⟨fun _ => by rw [z_up_i _ _ _ _ (by omega), z_up_s], fun _ => z_up_s _ _ _ _, by dsimp only; omega, by dsimp only; omega⟩
      · have x : z_nx 3 n p = some (p.1, p.2 + 1) := by unfold z_nx; rw [if_neg (by omega), if_neg (by omega), if_pos (by omega)]
        rw [x, if_neg g, hf, show nI (1 + 1) = nI (3 - 1) from rfl, z_np3 (by omega)]
        refine ⟨_, rfl, fun b hb' => z_up_k _ _ _ _ hb', ?_⟩
        intro p' h
        injection h with h
        subst h
        exact ⟨fun _ => by rw [z_up_i _ _ _ _ (by omega)]; exact ha (by omega), fun _ => z_up_s _ _ _ _, hp1, by dsimp only; omega⟩
section
variable {m W pl c : Nat} {h t d A : Nat → Nat} {lw : Option TU} {q0 : Nat}
theorem z_Pl_A {c' : Nat} {A' : Nat → Nat} {M M' : Mem} (hp : z_Pl m W pl c h t d A lw M) (h9 : M' 1 9 = nI c') (h1 : ∀ x, x ≠ 9 → M' 1 x = M 1 x) (h5 : ∀ i, i < c' → M' 5 i = nI (A' i)) (ho : ∀ b, b ≠ 1 → b ≠ 5 → M' b = M b) : z_Pl m W pl c' h t d A' lw M' := by
  obtain ⟨p1, p2, p3, p4, p5, p6, p7, p8⟩ := hp
  refine ⟨by rw [h1 _ (by omega)]; exact p1, by rw [h1 _ (by omega)]; exact p2, by rw [h1 _ (by omega)]; exact p3, h9, ?_, h5, ?_, ?_⟩
  · rw [ho 2 (by omega) (by omega), ho 3 (by omega) (by omega), ho 4 (by omega) (by omega)]; exact p5
  · have hf : z_Cf M M' := z_Cf_b (fun b hb => ho b (by omega) (by omega))
    cases lw with
    | none => simp only at p7 ⊢; rw [h1 _ (by omega)]; exact p7
    | some u => simp only at p7 ⊢; rw [h1 _ (by omega)]; exact ⟨p7.1, z_LOK_fr hf p7.2⟩
  · rw [ho 6 (by omega) (by omega)]; exact p8
theorem z_Pl_o {M M' : Mem} (hp : z_Pl m W pl c h t d A lw M) (ho : ∀ b, b ≠ 22 → b ≠ 23 → M' b = M b) : z_Pl m W pl c h t d A lw M' :=
  z_Pl_fr (z_Cf_b (fun b hb => ho b (by omega) (by omega))) (fun x _ => by rw [ho 1 (by omega) (by omega)]) (fun k g1 g2 => ho k (by omega) (by omega)) (by rw [ho 6 (by omega) (by omega)]; exact hp.2.2.2.2.2.2.2) hp
def z_fV (m W pl k : Nat) (h t d : Nat → Nat) (lw : Option TU) (A : Nat → Nat) : Option Nat := (z_out m W h t d (z_sf A k) (z_P lw pl) m).1 0
theorem z_fV_lt {k q : Nat} (hbd : z_Bd m W pl k h t d A) (hq : z_fV m W pl k h t d lw A = some q) : q < 2 ^ 31 := by
  have := z_outB m W h t d (z_sf A k) (z_P lw pl) (fun a b ha => z_P_le hbd.2.2.1 ha) (fun a ha => z_sf_le (fun k hk => (hbd.2.2.2.2.2 k hk).2) ha) (fun j hj => (hbd.2.2.2.2.1 j hj).2.1) m (by omega) 0 q hq
  have := hbd.1
  omega
theorem z_fCl {L : List Nat} {k n : Nat} {M0 : Mem} (hk1 : 1 ≤ k) (hk : k ≤ 3) (hn : n < 24) (hkn : k ≤ n + 1) (hbd : ∀ p : Nat × Nat, p.1 ≤ n → p.2 ≤ n → z_Bd m W pl k h t d (z_fA L k n p)) (h21 : ∀ i, i ≤ n → M0 21 i = nI (L.getD i 0)) : ∀ r i fu (x : Option (Nat × Nat)) (B B' : Option Nat × (Nat → Nat)) (M : Mem) (c0 : Nat) (A0 : Nat → Nat), i + r ≤ 300 → r < fu → z_rn k n (fun B p => z_fs (z_fV m W pl k h t d lw) B (z_fA L k n p)) r x B = some B' → z_Pl m W pl c0 h t d A0 lw M → M 21 = M0 21 → (∀ p, x = some p → (2 ≤ k → M 22 0 = nI p.1) ∧ (3 ≤ k → M 22 1 = nI p.2) ∧ p.1 ≤ n ∧ p.2 ≤ n) → (∀ q, B.1 = some q → q < 2 ^ 31 ∧ ∀ j, j < k → M 23 j = nI (B.2 j)) → ∃ (M' : Mem) (c' : Nat) (A' : Nat → Nat), f_X9_chooseFew_L61 (nI k) (nI (n + 1)) fu (z_oN B.1) (z_fl1 x) (nI i) M = some (z_oN B'.1, M') ∧ z_Pl m W pl c' h t d A' lw M' ∧ z_Cf M M' ∧ (∀ q, B'.1 = some q → q < 2 ^ 31 ∧ ∀ j, j < k → M' 23 j = nI (B'.2 j)) ∧ ∀ b, 10 ≤ b → b ≤ 20 → M' b = M b := by
  intro r
  induction r with
  | zero =>
    intro i fu x B B' M c0 A0 h1 h2 h3 h4 h5 h6 h7
    obtain ⟨fu, rfl⟩ : ∃ f, fu = f + 1 := ⟨fu - 1, by omega⟩
    cases x with
    | some p => simp [z_rn] at h3
    | none =>
      simp only [z_rn] at h3
      injection h3 with h3
      subst h3
      refine ⟨M, c0, A0, ?_, h4, z_Cf_r M, h7, fun _ _ _ => rfl⟩
      rw [f_X9_chooseFew_L61]
      by_cases g : (300 : Int32) ≤ nI i
      · rw [if_pos g]
      · rw [if_neg g, if_pos (show z_fl1 none = 0 from rfl)]
  | succ r ih =>
    intro i fu x B B' M c0 A0 h1 h2 h3 h4 h5 h6 h7
    obtain ⟨fu, rfl⟩ : ∃ f, fu = f + 1 := ⟨fu - 1, by omega⟩
    cases x with
    | none =>
      simp only [z_rn] at h3
      injection h3 with h3
      subst h3
      refine ⟨M, c0, A0, ?_, h4, z_Cf_r M, h7, fun _ _ _ => rfl⟩
      rw [f_X9_chooseFew_L61]
      by_cases g : (300 : Int32) ≤ nI i
      · rw [if_pos g]
      · rw [if_neg g, if_pos (show z_fl1 none = 0 from rfl)]
    | some p =>
      simp only [z_rn] at h3
      obtain ⟨ha, hb, hp1, hp2⟩ := h6 p rfl
      have hbdp := hbd p hp1 hp2
      obtain ⟨M1, u1, u2, u3, u4, u5⟩ := z_cUse (M := M) (L := L) hk1 hk hn hp1 hp2 (fun j hj => by rw [h5]; exact h21 j hj) ha hb
      have pl1 := z_Pl_A h4 u3 u4 u2 u5
      have cf1 : z_Cf M M1 := z_Cf_b (fun b hb => u5 b (by omega) (by omega))
      obtain ⟨M2, e1, e2, e3, -, -, e6⟩ := z_cLst hbdp pl1
      obtain ⟨A, hA⟩ : ∃ A, A = z_fA L k n p := ⟨_, rfl⟩
      rw [← hA] at u2 pl1 e1 e2 hbdp h3
      obtain ⟨v, hv⟩ : ∃ v, v = z_fV m W pl k h t d lw A := ⟨_, rfl⟩
      have e1' : f_X2_leastPrices M1 = some (z_oN v, M2) := by rw [hv]; exact e1
      have vb : ∀ q, v = some q → q < 2 ^ 31 := fun q hq => z_fV_lt hbdp (lw := lw) (by rw [← hv]; exact hq)
      have r22 : M2 22 = M 22 := by rw [e6 22 (by omega) (by omega) (by omega) (by omega) (by omega), u5 22 (by omega) (by omega)]
      have r21 : M2 21 = M 21 := by rw [e6 21 (by omega) (by omega) (by omega) (by omega) (by omega), u5 21 (by omega) (by omega)]
      have r23 : M2 23 = M 23 := by rw [e6 23 (by omega) (by omega) (by omega) (by omega) (by omega), u5 23 (by omega) (by omega)]
      have r10 : ∀ b, 10 ≤ b → b ≤ 20 → M2 b = M b := fun b g1 g2 => by rw [e6 b (by omega) (by omega) (by omega) (by omega) (by omega), u5 b (by omega) (by omega)]
      have r5 : ∀ j, j < k → M2 5 j = nI (A j) := fun j hj => by rw [e6 5 (by omega) (by omega) (by omega) (by omega) (by omega)]; exact u2 j hj
      have tail : ∀ (B1 : Option Nat × (Nat → Nat)) (M3 : Mem), z_rn k n (fun B p => z_fs (z_fV m W pl k h t d lw) B (z_fA L k n p)) r (z_nx k n p) B1 = some B' → (∀ b, b ≠ 23 → M3 b = M2 b) → (∀ q, B1.1 = some q → q < 2 ^ 31 ∧ ∀ j, j < k → M3 23 j = nI (B1.2 j)) → ∃ (M' : Mem) (c' : Nat) (A' : Nat → Nat), ((f_X9_nextPick M3 (nI k - 1) (nI (n + 1) - 1)).bind fun q10 => f_X9_chooseFew_L61 (nI k) (nI (n + 1)) fu (z_oN B1.1) q10.1 (nI i + 1) q10.2) = some (z_oN B'.1, M') ∧ z_Pl m W pl c' h t d A' lw M' ∧ z_Cf M M' ∧ (∀ q, B'.1 = some q → q < 2 ^ 31 ∧ ∀ j, j < k → M' 23 j = nI (B'.2 j)) ∧ ∀ b, 10 ≤ b → b ≤ 20 → M' b = M b := by
        intro B1 M3 t1 t2 t3
        obtain ⟨M4, n1, n2, n3⟩ := z_cNx (M := M3) hk1 hk hn hkn hp1 hp2 (fun g => by rw [t2 22 (by omega), r22]; exact ha g) (fun g => by rw [t2 22 (by omega), r22]; exact hb g)
        have o4 : ∀ b, b ≠ 22 → b ≠ 23 → M4 b = M2 b := fun b g1 g2 => by rw [n2 b g1, t2 b g2]
        have cf4 : z_Cf M M4 := z_Cf_t cf1 (z_Cf_t e3 (z_Cf_b (fun b hb => o4 b (by omega) (by omega))))
        obtain ⟨M', c', A', f1, f2, f3, f4, f5⟩ := ih (i + 1) fu (z_nx k n p) B1 B' M4 k A (by omega) (by omega) t1 (z_Pl_o e2 o4) (by rw [o4 21 (by omega) (by omega), r21]; exact h5) n3 (fun q hq => by rw [n2 23 (by omega)]; exact t3 q hq)
        refine ⟨M', c', A', ?_, f2, z_Cf_t cf4 f3, f4, ?_⟩
        · rw [n1, Option.bind_some, nI_1]
          exact f1
        · intro b g1 g2
          rw [f5 b g1 g2, o4 b (by omega) (by omega), r10 b g1 g2]
      have cp : ∀ q, v = some q → bw_cpok (0 : Int32) (0 : Int32) (nI k) 6 3 = true ∧ (∀ b, b ≠ 23 → bw_cpy M2 5 (0 : Int32) 23 (0 : Int32) (nI k) b = M2 b) ∧ ∀ q', (some q, A).1 = some q' → q' < 2 ^ 31 ∧ ∀ j, j < k → bw_cpy M2 5 (0 : Int32) 23 (0 : Int32) (nI k) 23 j = nI ((some q, A).2 j) := by
        intro q hq
        refine ⟨?_, ?_, ?_⟩
        · have k3 : k = 1 ∨ k = 2 ∨ k = 3 := by omega
          rcases k3 with rfl | rfl | rfl <;> decide
        · intro b hb; unfold bw_cpy; rw [z_rowk _ _ _ hb]
        · intro q' h
          injection h with h
          subst h
          refine ⟨vb q hq, ?_⟩
          intro j hj
          unfold bw_cpy
          rw [z_rows, nI_clamp (by omega), show ((0 : Int32).toNatClampNeg) = 0 from rfl, pk_cpy_in (by omega) (by omega), show 0 + (j - 0) = j by omega]
          exact r5 j hj
      rw [f_X9_chooseFew_L61, show (300 : Int32) = nI 300 from rfl, if_neg (nI_ge (by omega) (by omega)), if_neg (show ¬ z_fl1 (some p) = 0 from (by decide : ¬ (1 : Int32) = 0)), u1, Option.bind_some, e1', Option.bind_some]
      dsimp only
      cases hv' : v with
      | none =>
        rw [if_pos (show z_oN none < 0 by decide)]
        have x : z_fs (z_fV m W pl k h t d lw) B A = B := by unfold z_fs; rw [← hv, hv']
        rw [x] at h3
        exact tail B M2 h3 (fun _ _ => rfl) (by rw [r23]; exact h7)
      | some q =>
        have qb := vb q hv'
        obtain ⟨cp1, cp2, cp3⟩ := cp q hv'
        rw [if_neg (show ¬ z_oN (some q) < 0 from nI_pos qb), if_pos cp1, z_ml]
        cases hB : B.1 with
        | none =>
          have x : z_fs (z_fV m W pl k h t d lw) B A = (some q, A) := by unfold z_fs; rw [← hv, hv']; dsimp only; rw [hB]
          rw [x] at h3
          rw [if_pos (show z_oN none < 0 by decide)]
          exact tail (some q, A) _ h3 cp2 cp3
        | some p' =>
          have pb := (h7 p' hB).1
          rw [if_neg (show ¬ z_oN (some p') < 0 from nI_pos pb)]
          by_cases g : p' ≤ q
          · have x : z_fs (z_fV m W pl k h t d lw) B A = B := by unfold z_fs; rw [← hv, hv']; dsimp only; rw [hB]; dsimp only; rw [if_pos g]
            rw [x] at h3
            rw [if_pos (show z_oN (some p') ≤ z_oN (some q) from nI_le g qb)]
            have := tail B M2 h3 (fun _ _ => rfl) (by rw [r23]; exact h7)
            rw [hB] at this
            exact this
          · have x : z_fs (z_fV m W pl k h t d lw) B A = (some q, A) := by unfold z_fs; rw [← hv, hv']; dsimp only; rw [hB]; dsimp only; rw [if_neg g]
            rw [x] at h3
            rw [if_neg (show ¬ z_oN (some p') ≤ z_oN (some q) from nI_ge (by omega) pb)]
            exact tail (some q, A) _ h3 cp2 cp3
end
