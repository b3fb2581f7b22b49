/-! level 2: pour, copy -/
def z_cnt (q : Nat → Bool) : Nat → Nat → Nat
  | 0, i => i
  | r + 1, i => if q i = true then z_cnt q r (i + 1) else i
theorem z_cnt_le (q : Nat → Bool) : ∀ r i, i ≤ z_cnt q r i ∧ z_cnt q r i ≤ i + r ∧ ∀ j, i ≤ j → j < z_cnt q r i → q j = true := by
  intro r
  induction r with
  | zero => intro i; exact ⟨Nat.le_refl _, Nat.le_refl _, fun j h1 h2 => by simp only [z_cnt] at h2; omega⟩
  | succ r ih =>
    intro i
    simp only [z_cnt]
    by_cases g : q i = true
    · rw [if_pos g]
      obtain ⟨a, b, c⟩ := ih (i + 1)
      refine ⟨by omega, by omega, fun j h1 h2 => ?_⟩
      by_cases e : j = i
      · rw [e]; exact g
      · exact c j (by omega) h2
    · rw [if_neg g]; exact ⟨Nat.le_refl _, by omega, fun j h1 h2 => by omega⟩
def z_isz (x : Int32) : Bool := decide (¬ f_X9_isSize x = 0)
theorem z_cSizes {M : Mem} {t p : Nat} {w : Nat → Int32} (hp : p ≤ 24) (h1 : M t 1 = nI p) (hw : ∀ i, i < p → M (t + 1) i = w i) : ∀ r i fu, i + r = p → r < fu → f_X4_sizes_L2 M t fu (nI i) = some (nI (z_cnt (fun k => z_isz (w k)) r i)) := by
  intro r
  induction r with
  | zero =>
    intro i fu h2 h3
    obtain ⟨fu, rfl⟩ : ∃ f, fu = f + 1 := ⟨fu - 1, by omega⟩
    rw [f_X4_sizes_L2, h1, if_pos (nI_le (by omega) (by omega)), z_cnt]
    congr 2; omega
  | succ r ih =>
    intro i fu h2 h3
    obtain ⟨fu, rfl⟩ : ∃ f, fu = f + 1 := ⟨fu - 1, by omega⟩
    rw [f_X4_sizes_L2, h1, if_neg (nI_ge (by omega) (by omega)), z_ib (by omega) (by omega), if_pos rfl, nI_clamp (by omega), hw i (by omega), z_cnt]
    by_cases g : f_X9_isSize (w i) = 0
    · rw [if_pos g, if_neg (by simp [z_isz, g])]
    · rw [if_neg g, nI_1, ih (i + 1) fu (by omega) (by omega), if_pos (by simp [z_isz, g])]
theorem z_sizeE (x : Int32) : f_X10_isSize x = f_X9_isSize x := by
  rcases z_size x with ⟨a, b⟩ | ⟨a, b, -⟩ <;> rw [a, b]
theorem z_mSizes {M : Mem} {k p : Nat} {v : Int32} {w : Nat → Int32} (hk : k < 4) (hp : p ≤ 24) (h1 : M 121 k = nI p) (hw : ∀ i, i < p → M 122 (24 * k + i) = w i) : ∀ r i fu, i + r = p → r < fu → f_X10_pour_L35 M (nI k) v fu (nI i) = if M 94 4 + nI (z_cnt (fun k => z_isz (w k)) r i) ≤ 24 then f_X10_pour_L87 (nI k) v (nI (z_cnt (fun k => z_isz (w k)) r i)) bw_fu 0 M else some (-1000000003, M) := by
  intro r
  induction r with
  | zero =>
    intro i fu h2 h3
    obtain ⟨fu, rfl⟩ : ∃ f, fu = f + 1 := ⟨fu - 1, by omega⟩
    rw [f_X10_pour_L35, z_ib (by omega) (by omega), if_pos rfl, nI_clamp (by omega), h1, if_pos (nI_le (by omega) (by omega)), z_c4]
    rfl
  | succ r ih =>
    intro i fu h2 h3
    obtain ⟨fu, rfl⟩ : ∃ f, fu = f + 1 := ⟨fu - 1, by omega⟩
    rw [f_X10_pour_L35, z_ib (by omega) (by omega), if_pos rfl, nI_clamp (by omega), h1, if_neg (nI_ge (by omega) (by omega))]
    have e1 : bw_ib (24 * nI k + nI i) 96 = true := by rw [l_24, pk_mul, nI_add]; exact z_ib (by omega) (by omega)
    have e2 : (24 * nI k + nI i).toNatClampNeg = 24 * k + i := by rw [l_24, pk_mul, nI_add]; exact nI_clamp (by omega)
    rw [e1, if_pos rfl, e2, hw i (by omega), z_sizeE, z_c4]
    rw [show z_cnt (fun k => z_isz (w k)) (r + 1) i = if z_isz (w i) = true then z_cnt (fun k => z_isz (w k)) r (i + 1) else i from rfl]
    by_cases g : f_X9_isSize (w i) = 0
    · have zi : z_isz (w i) = false := by simp [z_isz, g]
      rw [if_pos g, zi, if_neg (show ¬ false = true by decide)]
    · have zi : z_isz (w i) = true := by simp [z_isz, g]
      rw [if_neg g, nI_1, ih (i + 1) fu (by omega) (by omega), zi, if_pos (show true = true from rfl)]
def z_ph (x : Int32) : Nat := (x / 100).toNatClampNeg
def z_pt (x : Int32) : Nat := (bw_rem x 100).toNatClampNeg
theorem z_pht {x : Int32} (h : z_isz x = true) : x / 100 = nI (z_ph x) ∧ bw_rem x 100 = nI (z_pt x) ∧ 1 ≤ z_ph x ∧ z_ph x ≤ 99 ∧ 1 ≤ z_pt x ∧ z_pt x ≤ 99 := by
  rcases z_size x with ⟨a, b⟩ | ⟨a, b, h', t, h1, h2, h3, h4, h5, h6⟩
  · simp [z_isz, a] at h
  · unfold z_ph z_pt
    rw [h5, h6, nI_clamp (by omega), nI_clamp (by omega)]
    exact ⟨rfl, rfl, h1, h2, h3, h4⟩
def z_pl (w : Nat → Int32) (p : Nat) : Nat → Nat → (Nat → Nat) → (Nat → Nat)
  | 0, _, s => s
  | r + 1, i, s => z_pl w p r (i + 1) (z_sb s (z_ph (w i)) (z_pt (w i)) p)
theorem z_sb4 (s : Nat → Nat) (h t p : Nat) : z_sb s h t p 4 = s 4 + 1 := by unfold z_sb; rw [z_su_a, if_pos rfl]
theorem z_cPour {c p t : Nat} {w : Nat → Int32} (hc : c ≤ 24) (ht : 65 ≤ t) (hp : p ≤ 7) (hw2 : ∀ i, i < c → z_isz (w i) = true) : ∀ r i fu (M : Mem) (s : Nat → Nat), (∀ i, i < c → M (t + 1) i = w i) → i + r = c → r < fu → z_C M 25 s → z_W s → s 4 + r ≤ 24 → ∃ M', f_X9_pour_L66 t (nI p) (nI c) fu (nI i) M = some (nI c, M') ∧ z_C M' 25 (z_pl w p r i s) ∧ z_W (z_pl w p r i s) ∧ z_pl w p r i s 6 = s 6 ∧ M' 25 8 = M 25 8 ∧ ∀ b, b < 25 ∨ 29 < b → M' b = M b := by
  intro r
  induction r with
  | zero =>
    intro i fu M s hw h1 h2 hC hW h4
    obtain ⟨fu, rfl⟩ : ∃ f, fu = f + 1 := ⟨fu - 1, by omega⟩
    refine ⟨M, ?_, hC, hW, rfl, rfl, fun _ _ => rfl⟩
    rw [f_X9_pour_L66, if_pos (nI_le (by omega) (by omega))]
  | succ r ih =>
    intro i fu M s hw h1 h2 hC hW h4
    obtain ⟨fu, rfl⟩ : ∃ f, fu = f + 1 := ⟨fu - 1, by omega⟩
    obtain ⟨a1, a2, a3, a4, a5, a6⟩ := z_pht (hw2 i (by omega))
    have ad := z_cAdd (M := M) (s := s) (h := z_ph (w i)) (t := z_pt (w i)) (p := p) hC.1.1 (by omega)
    have adC := z_cab_C (M := M) (s := s) (h := z_ph (w i)) (t := z_pt (w i)) (p := p) hC hW.1 (by omega)
    obtain ⟨M4, hM4⟩ : ∃ M4, M4 = z_cab M (s 4) (z_ph (w i)) (z_pt (w i)) p := ⟨_, rfl⟩
    rw [← hM4] at ad adC
    have o : ∀ b, b < 25 ∨ 29 < b → M4 b = M b := by
      intro b hb; rw [hM4]; simp (disch := omega) only [z_cab, z_up_k]
    obtain ⟨M', e1, e2, e3, e4, e5, e6⟩ := ih (i + 1) fu M4 (z_sb s (z_ph (w i)) (z_pt (w i)) p) (fun j hj => by rw [o _ (by omega)]; exact hw j hj) (by omega) (by omega) adC (z_sb_W hW (by omega) a3 a4 a5 a6 hp) (by rw [z_sb4]; omega)
    refine ⟨M', ?_, e2, e3, ?_, ?_, ?_⟩
    · rw [f_X9_pour_L66, if_neg (nI_ge (by omega) (by omega)), z_ib (by omega) (by omega), if_pos rfl, nI_clamp (by omega), hw i (by omega), a1, a2, ad, Option.bind_some, nI_1]
      exact e1
    · rw [show z_pl w p (r + 1) i s = z_pl w p r (i + 1) (z_sb s (z_ph (w i)) (z_pt (w i)) p) from rfl, e4]
      unfold z_sb
      simp (disch := omega) only [z_su_a, if_pos, if_neg, ite_true, ite_false, and_self, and_true, true_and, and_false, false_and]
    · rw [e5, hM4]; simp (disch := omega) only [z_cab, z_up, if_pos, if_neg, ite_true, ite_false, and_self, and_true, true_and, and_false, false_and]
    · intro b hb; rw [e6 b hb, o b hb]
theorem z_mPour {c p k : Nat} {w : Nat → Int32} (hc : c ≤ 24) (hk : k < 4) (hp : p ≤ 7) (hw2 : ∀ i, i < c → z_isz (w i) = true) : ∀ r i fu (M : Mem) (s : Nat → Nat), (∀ i, i < c → M 122 (24 * k + i) = w i) → i + r = c → r < fu → z_MR M 94 s → s 4 + r ≤ 24 → ∃ M', f_X10_pour_L87 (nI k) (nI p) (nI c) fu (nI i) M = some (nI c, M') ∧ z_MR M' 94 (z_pl w p r i s) ∧ M' 94 0 = M 94 0 ∧ (∀ k, 158 ≤ k → M' 94 k = M 94 k) ∧ ∀ b, b ≠ 94 → M' b = M b := by
  intro r
  induction r with
  | zero =>
    intro i fu M s hw h1 h2 hM h4
    obtain ⟨fu, rfl⟩ : ∃ f, fu = f + 1 := ⟨fu - 1, by omega⟩
    refine ⟨M, ?_, hM, rfl, fun _ _ => rfl, fun _ _ => rfl⟩
    rw [f_X10_pour_L87, if_pos (nI_le (by omega) (by omega))]
  | succ r ih =>
    intro i fu M s hw h1 h2 hM h4
    obtain ⟨fu, rfl⟩ : ∃ f, fu = f + 1 := ⟨fu - 1, by omega⟩
    obtain ⟨a1, a2, a3, a4, a5, a6⟩ := z_pht (hw2 i (by omega))
    have ad := z_mAdd (M := M) (s := s) (h := z_ph (w i)) (t := z_pt (w i)) (p := p) (hM 4 (by omega) (by omega)) (by omega)
    have adM := z_mab_MR (M := M) (s := s) (h := z_ph (w i)) (t := z_pt (w i)) (p := p) hM
    obtain ⟨M4, hM4⟩ : ∃ M4, M4 = z_mab M (s 4) (z_ph (w i)) (z_pt (w i)) p := ⟨_, rfl⟩
    rw [← hM4] at ad adM
    have o : ∀ b, b ≠ 94 → M4 b = M b := by
      intro b hb; rw [hM4]; simp (disch := omega) only [z_mab, z_up_k]
    obtain ⟨M', e1, e2, e5, e6, e7⟩ := ih (i + 1) fu M4 (z_sb s (z_ph (w i)) (z_pt (w i)) p) (fun j hj => by rw [o _ (by omega)]; exact hw j hj) (by omega) (by omega) adM (by rw [z_sb4]; omega)
    have i1 : bw_ib (24 * nI k + nI i) 96 = true := by rw [l_24, pk_mul, nI_add]; exact z_ib (by omega) (by omega)
    have i2 : (24 * nI k + nI i).toNatClampNeg = 24 * k + i := by rw [l_24, pk_mul, nI_add]; exact nI_clamp (by omega)
    refine ⟨M', ?_, e2, ?_, ?_, ?_⟩
    · rw [f_X10_pour_L87, if_neg (nI_ge (by omega) (by omega)), i1, if_pos rfl, i2, hw i (by omega), z_ml, a1, a2, ad, Option.bind_some, nI_1]
      exact e1
    · rw [e5, hM4]; simp (disch := omega) only [z_mab, z_up, if_pos, if_neg, ite_true, ite_false, and_self, and_true, true_and, and_false, false_and]
    · intro k hk; rw [e6 k hk, hM4]; simp (disch := omega) only [z_mab, z_up, if_pos, if_neg, ite_true, ite_false, and_self, and_true, true_and, and_false, false_and]
    · intro b hb; rw [e7 b hb, o b hb]
theorem op_pour : Op_pour Inv := by
  intro n M a b hn hI
  have hI' := hI
  obtain ⟨⟨s, u, hS⟩, -⟩ := hI'
  have hS' := hS
  obtain ⟨hW, hM, hz, c1, c2, c3, c4, hT⟩ := hS
  obtain ⟨w1, w2, w3, w4, w5, w6, w7, w8, w9⟩ := hW.1
  obtain ⟨d1, d2, d3, d4, d5, d6, d7⟩ := c1
  have m4 : M 94 4 = nI (s 4) := hM 4 (by omega) (by omega)
  have m5 : M 94 5 = nI (s 5) := hM 5 (by omega) (by omega)
  have m6 : M 94 6 = nI (s 6) := hM 6 (by omega) (by omega)
  have m7 : M 94 7 = nI (s 7) := hM 7 (by omega) (by omega)
  have sht := hI.2.2.2.2.1
  have hfu : 30 < bw_fu := by decide
  have bad : ∀ r, f_X9_pour M a b = some (r, M) → f_X10_pour M a b = some (r, M) → ∃ (r : Int32) (M1 M2 : Mem), (f_X9_pour M a b = some (r, M1)) ∧ (f_X10_pour M1 a b = some (r, M2)) ∧ Inv (n + 1) M2 :=
    fun r h1 h2 => ⟨r, M, M, h1, h2, z_nochange hI⟩
  rcases z_wi a 0 3 (by omega) (by omega) with g | ⟨g, k, -, hk, rfl⟩
  · rw [← l_0, ← l_3] at g
    refine bad (-1000000001) ?_ ?_
    · unfold f_X9_pour f_X9_isSheet; rw [if_pos g]
    · unfold f_X10_pour f_X10_isSheet; rw [z_in, if_pos g]
  · rw [← l_0, ← l_3] at g
    rcases z_wi b 0 7 (by omega) (by omega) with o | ⟨o, pt, -, hpt, rfl⟩
    · rw [← l_0, ← l_7] at o
      refine bad (-1000000001) ?_ ?_
      · unfold f_X9_pour f_X9_isSheet; rw [g, if_neg (by decide), if_pos o]
      · unfold f_X10_pour f_X10_isSheet; rw [z_in, z_in, g, if_neg (by decide), if_pos o]
    · rw [← l_0, ← l_7] at o
      obtain ⟨t1, t2, ⟨p, hp, t3, t3'⟩, t4⟩ := sht k (by omega)
      have ib : bw_ib (nI k) 4 = true := z_ib (by omega) (by omega)
      have ic : (nI k).toNatClampNeg = k := nI_clamp (by omega)
      rcases t2 with s1 | s2
      · refine bad (-1000000011) ?_ ?_
        · unfold f_X9_pour f_X9_isSheet; rw [g, if_neg (by decide), o, if_neg (by decide), ib, if_pos rfl, ic, t1, if_pos s1]
        · unfold f_X10_pour f_X10_isSheet; rw [z_in, z_in, g, if_neg (by decide), o, if_neg (by decide), ib, if_pos rfl, ic, s1, if_neg (by decide)]
      · have n1 : ¬ M 120 k = -1 := by rcases s2 with e | e <;> (rw [e]; decide)
        have n2 : 0 ≤ M 120 k := by rcases s2 with e | e <;> (rw [e]; decide)
        obtain ⟨w, hw⟩ : ∃ w : Nat → Int32, w = fun i => M 122 (24 * k + i) := ⟨_, rfl⟩
        have hw1 : ∀ i, i < p → M (65 + 2 * k + 1) i = w i := by
          intro i hi; rw [hw]; exact (show 65 + 2 * k + 1 = 66 + 2 * k by omega) ▸ t4 i (by omega)
        obtain ⟨c, hc⟩ : ∃ c, c = z_cnt (fun k => z_isz (w k)) p 0 := ⟨_, rfl⟩
        have x1 := z_cSizes hp t3 hw1 p 0 bw_fu (by omega) (by omega)
        rw [← hc] at x1
        obtain ⟨y1, y2, y3⟩ := z_cnt_le (fun k => z_isz (w k)) p 0
        rw [← hc] at y1 y2 y3
        have x2 : ∀ M1 : Mem, M1 121 = M 121 → M1 122 = M 122 → _ := fun M1 h1 h2 => z_mSizes (M := M1) (k := k) (v := nI pt) (w := w) (by omega) hp (by rw [h1]; exact t3') (fun i hi => by rw [h2, hw]) p 0 bw_fu (by omega) (by omega)
        by_cases hb : s 4 + c ≤ 24
        · obtain ⟨M1, e1, e2, e3, e4, e5, e6⟩ := z_cPour (c := c) (p := pt) (t := 65 + 2 * k) (w := w) (by omega) (by omega) hpt (fun i hi => y3 i (by omega) hi) c 0 bw_fu M s (fun i hi => hw1 i (by omega)) (by omega) (by omega) ⟨⟨d1, d2, d3, d4, d5, d6, d7⟩, c2, c3, c4⟩ hW hb
          have q94 : M1 94 = M 94 := e6 94 (by omega)
          obtain ⟨M2, f1, f2, f3, f4, f5⟩ := z_mPour (c := c) (p := pt) (k := k) (w := w) (by omega) (by omega) hpt (fun i hi => y3 i (by omega) hi) c 0 bw_fu M1 s (fun i hi => by rw [e6 122 (by omega), hw]) (by omega) (by omega) (by intro k g1 g2; rw [q94]; exact hM k g1 g2) hb
          refine ⟨nI c, M1, M2, ?_, ?_, ?_⟩
          · unfold f_X9_pour f_X9_isSheet f_X4_sizes
            rw [g, if_neg (by decide), o, if_neg (by decide), ib, if_pos rfl, ic, t1, if_neg n1, l_0, x1, Option.bind_some, d1, l_24, pk_sub (by omega), if_pos (nI_le (by omega) (by omega))]
            exact e1
          · unfold f_X10_pour f_X10_isSheet
            rw [z_in, z_in, g, if_neg (by decide), o, if_neg (by decide), ib, if_pos rfl, ic, e6 120 (by omega), if_pos n2, l_0, x2 M1 (e6 121 (by omega)) (e6 122 (by omega)), ← hc, q94, m4, nI_add, l_24, if_pos (nI_le (by omega) (by omega))]
            exact f1
          · refine z_Inv_stk hI ?_ ⟨_, u, z_Stk_mk hS' e3 f2 ?_ ?_ e4 ?_ ?_ ?_⟩ (z_32 hI ?_)
            · intro k hk
              rw [f5 k (by omega), e6 k (by omega)]
            · rw [f5 25 (by omega), e5, f3, q94]; exact hz
            · exact z_C_fr (fun k g1 g2 => f5 k (by omega)) e3.1.2.1 e2
            · rw [f5 _ (by omega), e6 _ (by omega)]
            · intro k hk; rw [f4 k hk, q94]
            · intro c
              rw [f5 _ (by omega), f5 _ (by omega), f5 _ (by omega), e6 _ (by omega), e6 _ (by omega), e6 _ (by omega)]
              exact ⟨rfl, rfl, rfl⟩
            · rw [f5 _ (by omega), e6 _ (by omega)]
        · refine bad (-1000000003) ?_ ?_
          · unfold f_X9_pour f_X9_isSheet f_X4_sizes
            rw [g, if_neg (by decide), o, if_neg (by decide), ib, if_pos rfl, ic, t1, if_neg n1, l_0, x1, Option.bind_some, d1, l_24, pk_sub (by omega), if_neg (nI_ge (by omega) (by omega))]
          · unfold f_X10_pour f_X10_isSheet
            rw [z_in, z_in, g, if_neg (by decide), o, if_neg (by decide), ib, if_pos rfl, ic, if_pos n2, l_0, x2 M rfl rfl, ← hc, m4, nI_add, l_24, if_neg (nI_ge (by omega) (by omega))]
