/-! level 2: few, the model -/
section
variable {m W pl c : Nat} {h t d A : Nat → Nat} {lw : Option TU} {q0 : Nat}
theorem z_Mp_A {c' : Nat} {A' : Nat → Nat} {M M' : Mem} (hp : z_Mp m W pl c h t d A lw q0 M) (h10 : M' 93 10 = nI c') (h93 : M' 93 7 = M 93 7 ∧ M' 93 8 = M 93 8 ∧ M' 93 13 = M 93 13) (h100 : ∀ i, i < c' → M' 100 i = nI (A' i)) (ho : ∀ b, b ≠ 93 → b ≠ 100 → M' b = M b) : z_Mp m W pl c' h t d A' lw q0 M' := by
  obtain ⟨p1, p2, p3, p4, p5, p6, p7, p8, p9⟩ := hp
  refine ⟨by rw [h93.1]; exact p1, by rw [h93.2.1]; exact p2, by rw [ho 94 (by omega) (by omega)]; exact p3, h10, ?_, h100, z_MLw_fr (ho 94 (by omega) (by omega)) p7, ⟨p8.1, by rw [h93.2.2]; exact p8.2⟩, ?_⟩
  · rw [ho 97 (by omega) (by omega), ho 98 (by omega) (by omega), ho 99 (by omega) (by omega)]; exact p5
  · rw [ho 101 (by omega) (by omega), ho 102 (by omega) (by omega)]; exact p9
theorem z_mT3 (M : Mem) : ∃ M', f_X10_tries_L120 bw_fu (0 : Int32) M = some M' ∧ (∀ j, j < 3 → M' 109 j = M 100 j) ∧ ∀ b, b ≠ 109 → M' b = M b := by
  obtain ⟨f, hf⟩ : ∃ f, bw_fu = f + 1 + 1 + 1 + 1 := ⟨1996, rfl⟩
  have st : ∀ (i fu : Nat) (M : Mem), i < 3 → f_X10_tries_L120 (fu + 1) (nI i) M = f_X10_tries_L120 fu (nI (i + 1)) (bw_up M 109 i (M 100 i)) := by
    intro i fu M hi
    rw [f_X10_tries_L120, l_3, if_neg (nI_ge (by omega) (by omega)), z_ib (by omega) (by omega), if_pos rfl, z_ib (by omega) (by omega), if_pos rfl, nI_clamp (by omega), z_ml, nI_1]
  refine ⟨bw_up (bw_up (bw_up M 109 0 (M 100 0)) 109 1 (bw_up M 109 0 (M 100 0) 100 1)) 109 2 (bw_up (bw_up M 109 0 (M 100 0)) 109 1 (bw_up M 109 0 (M 100 0) 100 1) 100 2), ?_, ?_, ?_⟩
  · rw [hf, l_0, st 0 _ _ (by omega), st 1 _ _ (by omega), st 2 _ _ (by omega), f_X10_tries_L120, l_3, if_pos (nI_le (by omega) (by omega))]
  · intro j hj
    have : j = 0 ∨ j = 1 ∨ j = 2 := by omega
    rcases this with rfl | rfl | rfl
    · rw [z_up_i _ _ _ _ (by omega), z_up_i _ _ _ _ (by omega), z_up_s]
    · rw [z_up_i _ _ _ _ (by omega), z_up_s, z_up_k _ _ _ _ (by omega)]
    · rw [z_up_s, z_up_k _ _ _ _ (by omega), z_up_k _ _ _ _ (by omega)]
  · intro b hb; rw [z_up_k _ _ _ _ hb, z_up_k _ _ _ _ hb, z_up_k _ _ _ _ hb]
theorem z_mT1 {M : Mem} {k n : Nat} {p : Nat × Nat} (hk1 : 1 ≤ k) (hk : k ≤ 3) (hn : n < 24) (hp1 : p.1 ≤ n) (hp2 : p.2 ≤ n) (h22 : M 93 22 = nI (n + 1)) : f_X10_tries M (nI k) (nI p.1) (nI p.2) = (f_X10_parts (bw_up (bw_up (bw_up (bw_up M 93 10 (nI k)) 100 0 (M 108 (if k = 1 then n else p.1))) 100 1 (M 108 (if k = 2 then n else p.2))) 100 2 (M 108 n))).bind fun q12 => (if q12.1 < 0 then some q12.2 else (if (q12.2 93 24) < 0 then f_X10_tries_J111 q12.2 q12.1 else (if (q12.2 93 24) ≤ q12.1 then some q12.2 else f_X10_tries_J111 q12.2 q12.1))) := by
  have e2 : nI (n + 1) - 1 = nI n := by rw [l_1, pk_sub (by omega)]; rfl
  obtain ⟨M1, hM1⟩ : ∃ M1, M1 = bw_up M 93 10 (nI k) := ⟨_, rfl⟩
  have a22 : M1 93 22 = nI (n + 1) := by rw [hM1, z_up_i _ _ _ _ (by omega)]; exact h22
  have a108 : M1 108 = M 108 := by rw [hM1, z_up_k _ _ _ _ (by omega)]
  obtain ⟨x0, hx0⟩ : ∃ x, x = M 108 (if k = 1 then n else p.1) := ⟨_, rfl⟩
  obtain ⟨x1, hx1⟩ : ∃ x, x = M 108 (if k = 2 then n else p.2) := ⟨_, rfl⟩
  obtain ⟨M2, hM2⟩ : ∃ M2, M2 = bw_up M1 100 0 x0 := ⟨_, rfl⟩
  have b22 : M2 93 22 = nI (n + 1) := by rw [hM2, z_up_k _ _ _ _ (by omega)]; exact a22
  have b108 : M2 108 = M 108 := by rw [hM2, z_up_k _ _ _ _ (by omega), a108]
  obtain ⟨M3, hM3⟩ : ∃ M3, M3 = bw_up M2 100 1 x1 := ⟨_, rfl⟩
  have c22 : M3 93 22 = nI (n + 1) := by rw [hM3, z_up_k _ _ _ _ (by omega)]; exact b22
  have c108 : M3 108 = M 108 := by rw [hM3, z_up_k _ _ _ _ (by omega), b108]
  have s3 : f_X10_tries_J66 M2 1 x1 = (f_X10_parts (bw_up M3 100 2 (M 108 n))).bind fun q12 => (if q12.1 < 0 then some q12.2 else (if (q12.2 93 24) < 0 then f_X10_tries_J111 q12.2 q12.1 else (if (q12.2 93 24) ≤ q12.1 then some q12.2 else f_X10_tries_J111 q12.2 q12.1))) := by
    unfold f_X10_tries_J66
    rw [if_pos (by decide), z_ml, show ((1 : Int32).toNatClampNeg) = 1 from rfl, ← hM3, c22, e2, z_ib (by omega) (by omega), if_pos rfl, z_ml, nI_clamp (by omega), c108]
    rfl
  have s2 : f_X10_tries_J35 M1 (nI k) (nI p.2) 0 x0 = f_X10_tries_J66 M2 1 x1 := by
    unfold f_X10_tries_J35
    rw [if_pos (by decide), z_ml, show ((0 : Int32).toNatClampNeg) = 0 from rfl, ← hM2, b22, e2, l_2]
    by_cases g : k = 2
    · rw [if_pos (congrArg nI g), z_ib (by omega) (by omega), if_pos rfl, nI_clamp (by omega), b108, hx1, if_pos g]
    · rw [if_neg (z_neI g (by omega) (by omega)), z_ib (by omega) (by omega), if_pos rfl, nI_clamp (by omega), b108, hx1, if_neg g]
  have s1 : f_X10_tries M (nI k) (nI p.1) (nI p.2) = f_X10_tries_J35 M1 (nI k) (nI p.2) 0 x0 := by
    unfold f_X10_tries
    rw [z_ml, ← hM1, a22, e2, l_1]
    by_cases g : k = 1
    · rw [if_pos (congrArg nI g), z_ib (by omega) (by omega), if_pos rfl, nI_clamp (by omega), a108, hx0, if_pos g]
    · rw [if_neg (z_neI g (by omega) (by omega)), z_ib (by omega) (by omega), if_pos rfl, nI_clamp (by omega), a108, hx0, if_neg g]
  rw [s1, s2, s3, hM3, hM2, hM1, hx0, hx1]
/-- what the model holds between two tries -/
def z_fM (m W pl : Nat) (h t d : Nat → Nat) (lw : Option TU) (q0 k n : Nat) (L : List Nat) (M0 : Mem) (B : Option Nat × (Nat → Nat)) (M : Mem) : Prop := (∃ (c : Nat) (A : Nat → Nat), z_Mp m W pl c h t d A lw q0 M) ∧ M 93 22 = nI (n + 1) ∧ (∀ i, i ≤ n → M 108 i = nI (L.getD i 0)) ∧ M 93 24 = z_oI B.1 ∧ (∀ q, B.1 = some q → q < 2 ^ 31 ∧ ∀ j, j < k → M 109 j = nI (B.2 j)) ∧ z_Mf M0 M
def z_ft (m W pl : Nat) (h t d : Nat → Nat) (lw : Option TU) (k n : Nat) (L : List Nat) : Option Nat × (Nat → Nat) → Nat × Nat → Option Nat × (Nat → Nat) := fun B p => z_fs (z_fV m W pl k h t d lw) B (z_fA L k n p)
theorem z_mTry {L : List Nat} {k n : Nat} {M0 M : Mem} {p : Nat × Nat} {B : Option Nat × (Nat → Nat)} (hk1 : 1 ≤ k) (hk : k ≤ 3) (hn : n < 24) (hbd : ∀ p : Nat × Nat, p.1 ≤ n → p.2 ≤ n → z_Bd m W pl k h t d (z_fA L k n p)) (hp1 : p.1 ≤ n) (hp2 : p.2 ≤ n) (hM : z_fM m W pl h t d lw q0 k n L M0 B M) : ∃ M', f_X10_tries M (nI k) (nI p.1) (nI p.2) = some M' ∧ z_fM m W pl h t d lw q0 k n L M0 (z_ft m W pl h t d lw k n L B p) M' := by
  obtain ⟨⟨c0, A0, m1⟩, m2, m3, m4, m5, m6⟩ := hM
  obtain ⟨A, hA⟩ : ∃ A, A = z_fA L k n p := ⟨_, rfl⟩
  have hbdp := hbd p hp1 hp2
  rw [← hA] at hbdp
  rw [z_mT1 hk1 hk hn hp1 hp2 m2]
  obtain ⟨M1, hM1⟩ : ∃ M1, M1 = bw_up (bw_up (bw_up (bw_up M 93 10 (nI k)) 100 0 (M 108 (if k = 1 then n else p.1))) 100 1 (M 108 (if k = 2 then n else p.2))) 100 2 (M 108 n) := ⟨_, rfl⟩
  rw [← hM1]
  have o1 : ∀ b, b ≠ 93 → b ≠ 100 → M1 b = M b := by
    intro b g1 g2; rw [hM1, z_up_k _ _ _ _ g2, z_up_k _ _ _ _ g2, z_up_k _ _ _ _ g2, z_up_k _ _ _ _ g1]
  have o93 : M1 93 10 = nI k ∧ ∀ x, x ≠ 10 → M1 93 x = M 93 x := by
    rw [hM1, z_up_k _ _ _ _ (by omega), z_up_k _ _ _ _ (by omega), z_up_k _ _ _ _ (by omega)]
    exact ⟨z_up_s _ _ _ _, fun x hx => z_up_i _ _ _ _ hx⟩
  have o100 : ∀ i, i < k → M1 100 i = nI (A i) := by
    intro i hi
    rw [hA]
    unfold z_fA
    have : i = 0 ∨ i = 1 ∨ i = 2 := by omega
    rcases this with rfl | rfl | rfl
    · rw [hM1, z_up_i _ _ _ _ (by omega), z_up_i _ _ _ _ (by omega), z_up_s]
      by_cases g : k = 1
      · rw [if_pos g, if_pos (by omega), m3 n (by omega)]
      · rw [if_neg g, if_neg (by omega), if_pos rfl, m3 _ hp1]
    · rw [hM1, z_up_i _ _ _ _ (by omega), z_up_s]
      by_cases g : k = 2
      · rw [if_pos g, if_pos (by omega), m3 n (by omega)]
      · rw [if_neg g, if_neg (by omega), if_neg (by omega), m3 _ hp2]
    · rw [hM1, z_up_s, if_pos (by omega), m3 n (by omega)]
  have p1 : z_Mp m W pl k h t d A lw q0 M1 := z_Mp_A m1 o93.1 ⟨o93.2 7 (by omega), o93.2 8 (by omega), o93.2 13 (by omega)⟩ o100 o1
  have f1 : z_Mf M M1 := ⟨fun b hb => o1 b (by omega) (by omega), o93.2 3 (by omega), o93.2 26 (by omega), o93.2 54 (by omega)⟩
  obtain ⟨M2, e1, e2, e3, -, e5, e6⟩ := z_mLst hbdp p1
  obtain ⟨v, hv⟩ : ∃ v, v = z_fV m W pl k h t d lw A := ⟨_, rfl⟩
  have e1' : f_X10_parts M1 = some (z_oI v, M2) := by rw [hv]; exact e1
  have vb : ∀ q, v = some q → q < 2 ^ 31 := fun q hq => z_fV_lt hbdp (lw := lw) (by rw [← hv]; exact hq)
  have r24 : M2 93 24 = z_oI B.1 := by rw [e5, o93.2 24 (by omega)]; exact m4
  have r22 : M2 93 22 = nI (n + 1) := by rw [e5, o93.2 22 (by omega)]; exact m2
  have r108 : ∀ i, i ≤ n → M2 108 i = nI (L.getD i 0) := by rw [e6 108 (by omega) (by omega) (by omega) (by omega) (by omega) (by omega) (by omega) (by omega), o1 108 (by omega) (by omega)]; exact m3
  have r109 : M2 109 = M 109 := by rw [e6 109 (by omega) (by omega) (by omega) (by omega) (by omega) (by omega) (by omega) (by omega), o1 109 (by omega) (by omega)]
  have r100 : ∀ i, i < k → M2 100 i = nI (A i) := by rw [e6 100 (by omega) (by omega) (by omega) (by omega) (by omega) (by omega) (by omega) (by omega)]; exact o100
  have mf2 : z_Mf M0 M2 := z_Mf_t m6 (z_Mf_t f1 e3)
  have same : z_fM m W pl h t d lw q0 k n L M0 B M2 := ⟨⟨k, A, e2⟩, r22, r108, r24, by rw [r109]; exact m5, mf2⟩
  have upd' : ∀ q, v = some q → ∃ M', f_X10_tries_J111 M2 (nI q) = some M' ∧ z_fM m W pl h t d lw q0 k n L M0 (some q, A) M' := by
    intro q hq
    unfold f_X10_tries_J111
    rw [z_ml]
    obtain ⟨M3, hM3⟩ : ∃ M3, M3 = bw_up M2 93 24 (nI q) := ⟨_, rfl⟩
    rw [← hM3]
    have o3 : ∀ b, b ≠ 93 → M3 b = M2 b := fun b hb => by rw [hM3, z_up_k _ _ _ _ hb]
    have o3' : ∀ x, x ≠ 24 → M3 93 x = M2 93 x := fun x hx => by rw [hM3, z_up_i _ _ _ _ hx]
    obtain ⟨M4, g1, g2, g3⟩ := z_mT3 M3
    refine ⟨M4, g1, ⟨k, A, ?_⟩, ?_, ?_, ?_, ?_, ?_⟩
    · exact z_Mp_fr (by rw [g3 94 (by omega), o3 94 (by omega)]) (by rw [g3 93 (by omega)]; exact ⟨o3' 7 (by omega), o3' 8 (by omega), o3' 10 (by omega), o3' 13 (by omega)⟩) (fun k h1 h2 => by rw [g3 k (by omega), o3 k (by omega)]) e2
    · rw [g3 93 (by omega), o3' 22 (by omega)]; exact r22
    · rw [g3 108 (by omega), o3 108 (by omega)]; exact r108
    · rw [g3 93 (by omega), hM3, z_up_s]; rfl
    · intro q' h
      injection h with h
      subst h
      refine ⟨vb q hq, ?_⟩
      intro j hj
      rw [g2 j (by omega), o3 100 (by omega)]
      exact r100 j hj
    · refine z_Mf_t mf2 ⟨fun b hb => by rw [g3 b (by omega), o3 b (by omega)], ?_, ?_, ?_⟩
      · rw [g3 93 (by omega), o3' 3 (by omega)]
      · rw [g3 93 (by omega), o3' 26 (by omega)]
      · rw [g3 93 (by omega), o3' 54 (by omega)]
  rw [e1', Option.bind_some, show (z_oI v, M2).2 93 24 = z_oI B.1 from r24]
  dsimp only
  unfold z_ft
  rw [← hA]
  cases hv' : v with
  | none =>
    rw [if_pos (show z_oI none < 0 by decide)]
    have x : z_fs (z_fV m W pl k h t d lw) B A = B := by unfold z_fs; rw [← hv, hv']
    rw [x]
    exact ⟨M2, rfl, same⟩
  | some q =>
    have qb := vb q hv'
    obtain ⟨M', u1, u2⟩ := upd' q hv'
    rw [if_neg (show ¬ z_oI (some q) < 0 from nI_pos qb)]
    cases hB : B.1 with
    | none =>
      have x : z_fs (z_fV m W pl k h t d lw) B A = (some q, A) := by unfold z_fs; rw [← hv, hv']; dsimp only; rw [hB]
      rw [x, if_pos (show z_oI none < 0 by decide)]
      exact ⟨M', u1, u2⟩
    | some p' =>
      have pb := (m5 p' hB).1
      rw [if_neg (show ¬ z_oI (some p') < 0 from nI_pos pb)]
      by_cases g : p' ≤ q
      · have x : z_fs (z_fV m W pl k h t d lw) B A = B := by unfold z_fs; rw [← hv, hv']; dsimp only; rw [hB]; dsimp only; rw [if_pos g]
        rw [x, if_pos (show z_oI (some p') ≤ z_oI (some q) from nI_le g qb)]
        exact ⟨M2, rfl, same⟩
      · have x : z_fs (z_fV m W pl k h t d lw) B A = (some q, A) := by unfold z_fs; rw [← hv, hv']; dsimp only; rw [hB]; dsimp only; rw [if_neg g]
        rw [x, if_neg (show ¬ z_oI (some p') ≤ z_oI (some q) from nI_ge (by omega) pb)]
        exact ⟨M', u1, u2⟩
def z_i3 (st : Option Nat × (Nat → Nat) → Nat × Nat → Option Nat × (Nat → Nat)) (a : Nat) : Nat → Nat → Option Nat × (Nat → Nat) → Option Nat × (Nat → Nat)
  | 0, _, B => B
  | r + 1, b, B => z_i3 st a r (b + 1) (st B (a, b))
def z_o3 (k n : Nat) (st : Option Nat × (Nat → Nat) → Nat × Nat → Option Nat × (Nat → Nat)) : Nat → Nat → Option Nat × (Nat → Nat) → Option Nat × (Nat → Nat)
  | 0, _, B => B
  | r + 1, a, B => z_o3 k n st r (a + 1) (if k = 2 then st B (a, 0) else z_i3 st a (n - (a + 1)) (a + 1) B)
theorem z_m96 {L : List Nat} {n a : Nat} {M0 : Mem} {v2 : Int32} (hn : n < 24) (ha : a ≤ n) (hbd : ∀ p : Nat × Nat, p.1 ≤ n → p.2 ≤ n → z_Bd m W pl 3 h t d (z_fA L 3 n p)) : ∀ r b fu (B : Option Nat × (Nat → Nat)) (M : Mem), b + r = n → r < fu → z_fM m W pl h t d lw q0 3 n L M0 B M → ∃ M', f_X10_few_L96 (nI 3) v2 (nI n) (nI a) fu (nI b) M = some M' ∧ z_fM m W pl h t d lw q0 3 n L M0 (z_i3 (z_ft m W pl h t d lw 3 n L) a r b B) M' := by
  intro r
  induction r with
  | zero =>
    intro b fu B M h1 h2 h3
    obtain ⟨fu, rfl⟩ : ∃ f, fu = f + 1 := ⟨fu - 1, by omega⟩
    refine ⟨M, ?_, h3⟩
    rw [f_X10_few_L96, if_pos (nI_le (by omega) (by omega))]
  | succ r ih =>
    intro b fu B M h1 h2 h3
    obtain ⟨fu, rfl⟩ : ∃ f, fu = f + 1 := ⟨fu - 1, by omega⟩
    obtain ⟨M1, e1, e2⟩ := z_mTry (p := (a, b)) (by omega) (by omega) hn hbd ha (by dsimp only; omega) h3
    obtain ⟨M', f1, f2⟩ := ih (b + 1) fu _ M1 (by omega) (by omega) e2
    refine ⟨M', ?_, f2⟩
    have e1' : f_X10_tries M 3 (nI a) (nI b) = some M1 := e1
    rw [f_X10_few_L96, if_neg (nI_ge (by omega) (by omega)), if_pos (show nI 3 = 3 from rfl), e1', Option.bind_some, nI_1]
    exact f1
theorem z_m66 {L : List Nat} {k n : Nat} {M0 : Mem} {v2 : Int32} (hk2 : 2 ≤ k) (hk : k ≤ 3) (hn : n < 24) (hbd : ∀ p : Nat × Nat, p.1 ≤ n → p.2 ≤ n → z_Bd m W pl k h t d (z_fA L k n p)) : ∀ r a fu (B : Option Nat × (Nat → Nat)) (M : Mem), a + r = n → r < fu → z_fM m W pl h t d lw q0 k n L M0 B M → ∃ M', f_X10_few_L66 (nI k) v2 (nI n) fu (nI a) M = f_X10_few_L66 (nI k) v2 (nI n) 1 (nI n) M' ∧ z_fM m W pl h t d lw q0 k n L M0 (z_o3 k n (z_ft m W pl h t d lw k n L) r a B) M' := by
  have hfu : 100 < bw_fu := by decide
  intro r
  induction r with
  | zero =>
    intro a fu B M h1 h2 h3
    obtain ⟨fu, rfl⟩ : ∃ f, fu = f + 1 := ⟨fu - 1, by omega⟩
    refine ⟨M, ?_, h3⟩
    rw [f_X10_few_L66, f_X10_few_L66, if_pos (nI_le (by omega) (by omega)), if_pos (nI_le (by omega) (by omega))]
  | succ r ih =>
    intro a fu B M h1 h2 h3
    obtain ⟨fu, rfl⟩ : ∃ f, fu = f + 1 := ⟨fu - 1, by omega⟩
    by_cases g : k = 2
    · subst g
      obtain ⟨M1, e1, e2⟩ := z_mTry (p := (a, 0)) (by omega) (by omega) hn hbd (by dsimp only; omega) (by dsimp only; omega) h3
      obtain ⟨M', f1, f2⟩ := ih (a + 1) fu _ M1 (by omega) (by omega) e2
      refine ⟨M', ?_, f2⟩
      have e1' : f_X10_tries M 2 (nI a) 0 = some M1 := e1
      have e3 : f_X10_few_L96 (nI 2) v2 (nI n) (nI a) bw_fu (nI (a + 1)) M1 = some M1 := by
        obtain ⟨f, hf⟩ : ∃ f, bw_fu = f + 1 := ⟨1999, rfl⟩
        rw [hf, f_X10_few_L96, if_neg (show ¬ nI 2 = 3 by decide), ite_self]
      rw [f_X10_few_L66, if_neg (nI_ge (by omega) (by omega)), if_neg (show ¬ nI 2 ≤ 1 by decide), if_pos (show nI 2 = 2 from rfl), e1', Option.bind_some, nI_1, e3, Option.bind_some]
      exact f1
    · have g3 : k = 3 := by omega
      subst g3
      obtain ⟨M1, e1, e2⟩ := z_m96 (v2 := v2) (a := a) hn (by omega) hbd (n - (a + 1)) (a + 1) bw_fu B M (by omega) (by omega) h3
      obtain ⟨M', f1, f2⟩ := ih (a + 1) fu _ M1 (by omega) (by omega) e2
      refine ⟨M', ?_, ?_⟩
      · rw [f_X10_few_L66, if_neg (nI_ge (by omega) (by omega)), if_neg (show ¬ nI 3 ≤ 1 by decide), if_neg (show ¬ nI 3 = 2 by decide), nI_1, e1, Option.bind_some]
        exact f1
      · rw [z_o3, if_neg (show ¬ 3 = 2 by decide)]
        exact f2
end
def z_tri : Nat → Nat
  | 0 => 0
  | r + 1 => z_tri r + r
theorem z_tri_le : ∀ a b, a ≤ b → z_tri a ≤ z_tri b := by
  intro a b
  induction b with
  | zero => intro h; rw [show a = 0 by omega]; exact Nat.le_refl _
  | succ b ih =>
    intro h
    by_cases g : a = b + 1
    · rw [g]; exact Nat.le_refl _
    · have := ih (by omega)
      have e : z_tri (b + 1) = z_tri b + b := rfl
      omega
section
variable {n : Nat} {st : Option Nat × (Nat → Nat) → Nat × Nat → Option Nat × (Nat → Nat)}
theorem z_rnS {k R : Nat} {p : Nat × Nat} {B : Option Nat × (Nat → Nat)} : z_rn k n st (R + 1) (some p) B = z_rn k n st R (z_nx k n p) (st B p) := rfl
theorem z_rnN {k R : Nat} {B : Option Nat × (Nat → Nat)} : z_rn k n st R none B = some B := by
  cases R <;> rfl
theorem z_rn3i : ∀ r a b (B : Option Nat × (Nat → Nat)) R, b + (r + 1) = n → z_rn 3 n st (R + (r + 1)) (some (a, b)) B = z_rn 3 n st R (if a + 2 < n then some (a + 1, a + 2) else none) (z_i3 st a (r + 1) b B) := by
  intro r
  induction r with
  | zero =>
    intro a b B R h1
    have x : z_nx 3 n (a, b) = if a + 2 < n then some (a + 1, a + 2) else none := by
      unfold z_nx; dsimp only; rw [if_neg (by omega), if_neg (by omega), if_neg (by omega)]
    rw [show R + (0 + 1) = R + 1 from rfl, z_rnS, x]; rfl
  | succ r ih =>
    intro a b B R h1
    have x : z_nx 3 n (a, b) = some (a, b + 1) := by
      unfold z_nx; dsimp only; rw [if_neg (by omega), if_neg (by omega), if_pos (by omega)]
    rw [show R + (r + 1 + 1) = R + (r + 1) + 1 from rfl, z_rnS, x, ih a (b + 1) _ R (by omega)]; rfl
theorem z_rn3o : ∀ r a (B : Option Nat × (Nat → Nat)), a + r = n → ∃ R, R ≤ z_tri r ∧ z_rn 3 n st R (if a + 1 < n then some (a, a + 1) else none) B = some (z_o3 3 n st r a B) := by
  intro r
  induction r with
  | zero =>
    intro a B h1
    refine ⟨0, Nat.zero_le _, ?_⟩
    rw [if_neg (by omega), z_rnN]; rfl
  | succ r ih =>
    intro a B h1
    obtain ⟨R, r1, r2⟩ := ih (a + 1) (z_i3 st a (n - (a + 1)) (a + 1) B) (by omega)
    have e : z_o3 3 n st (r + 1) a B = z_o3 3 n st r (a + 1) (z_i3 st a (n - (a + 1)) (a + 1) B) := by
      rw [z_o3, if_neg (show ¬ 3 = 2 by decide)]
    rw [e]
    cases r with
    | zero =>
      have : n - (a + 1) = 0 := by omega
      refine ⟨0, Nat.zero_le _, ?_⟩
      rw [if_neg (by omega), z_rnN, this]; rfl
    | succ r =>
      refine ⟨R + (r + 1), ?_, ?_⟩
      · have : z_tri (r + 1 + 1) = z_tri (r + 1) + (r + 1) := rfl
        omega
      · rw [show n - (a + 1) = r + 1 by omega] at r2 ⊢
        rw [if_pos (by omega), z_rn3i r a (a + 1) B R (by omega)]
        exact r2
theorem z_rn2o : ∀ r a (B : Option Nat × (Nat → Nat)), a + r = n → z_rn 2 n st r (if a < n then some (a, 0) else none) B = some (z_o3 2 n st r a B) := by
  intro r
  induction r with
  | zero => intro a B h1; rw [if_neg (by omega), z_rnN]; rfl
  | succ r ih =>
    intro a B h1
    have x : z_nx 2 n (a, 0) = if a + 1 < n then some (a + 1, 0) else none := by
      unfold z_nx; dsimp only; rw [if_neg (by omega), if_pos rfl]
    rw [if_pos (by omega), z_rnS, x, ih (a + 1) _ (by omega), z_o3, if_pos rfl]
def z_fB (k n : Nat) (st : Option Nat × (Nat → Nat) → Nat × Nat → Option Nat × (Nat → Nat)) (B : Option Nat × (Nat → Nat)) : Option Nat × (Nat → Nat) := if k = 1 then st B (0, 0) else z_o3 k n st n 0 B
theorem z_rnA {k : Nat} {B : Option Nat × (Nat → Nat)} (hk1 : 1 ≤ k) (hk : k ≤ 3) (hn : n < 24) (hkn : k ≤ n + 1) : ∃ R, R ≤ 300 ∧ z_rn k n st R (some (0, if k = 3 then 1 else 0)) B = some (z_fB k n st B) := by
  unfold z_fB
  by_cases k1 : k = 1
  · subst k1
    refine ⟨1, by omega, ?_⟩
    have x : z_nx 1 n (0, 0) = none := by unfold z_nx; rw [if_pos rfl]
    rw [if_neg (by omega), if_pos rfl, show 1 = 0 + 1 from rfl, z_rnS, x, z_rnN]
  · by_cases k2 : k = 2
    · subst k2
      refine ⟨n, by omega, ?_⟩
      have := z_rn2o (n := n) (st := st) n 0 B (by omega)
      rw [if_pos (by omega)] at this
      rw [if_neg (by omega), if_neg (by omega)]
      exact this
    · have k3 : k = 3 := by omega
      subst k3
      obtain ⟨R, r1, r2⟩ := z_rn3o (n := n) (st := st) n 0 B (by omega)
      have t1 := z_tri_le n 24 (by omega)
      have t2 : z_tri 24 = 276 := by decide
      refine ⟨R, by omega, ?_⟩
      rw [if_pos (by omega)] at r2
      rw [if_pos rfl, if_neg (by omega)]
      exact r2
theorem z_fB0 {k : Nat} {B : Option Nat × (Nat → Nat)} (hk : k ≤ 3) (hk2 : 2 ≤ k) (hkn : n + 1 < k) : z_fB k n st B = B := by
  unfold z_fB
  rw [if_neg (by omega)]
  have : n = 0 ∨ (n = 1 ∧ k = 3) := by omega
  rcases this with rfl | ⟨rfl, rfl⟩
  · rfl
  · rfl
end
