/-! level 2: lay, ask, item, rest -/
theorem z_under (M : Mem) {k v : Nat} (hk : k ≤ 5) (hv : v ≤ 5) : f_X9_isUnder M (nI k) (nI v) = some (f_X10_isUnder (nI k) (nI v)) := by
  have g : ∀ n, f_X9_isUnder_L4 M (nI v) (n + 4) (nI k) 0 = some (f_X10_isUnder (nI k) (nI v)) := by
    intro n
    rcases (by omega : k = 0 ∨ k = 1 ∨ k = 2 ∨ k = 3 ∨ k = 4 ∨ k = 5) with rfl | rfl | rfl | rfl | rfl | rfl <;> rcases (by omega : v = 0 ∨ v = 1 ∨ v = 2 ∨ v = 3 ∨ v = 4 ∨ v = 5) with rfl | rfl | rfl | rfl | rfl | rfl <;> rfl
  exact g 1996
theorem op_ask : Op_ask Inv := by
  intro n M a b hn hI
  have hI' := hI
  obtain ⟨-, -, -, -, -, slt, -⟩ := hI'
  have fin : ∀ r, f_X9_ask M a b = some r → f_X10_ask M a b = some r → ∃ (r : Int32) (M1 M2 : Mem), (f_X9_ask M a b = some r ∧ M1 = M) ∧ (f_X10_ask M1 a b = some r ∧ M2 = M1) ∧ Inv (n + 1) M2 :=
    fun r h1 h2 => ⟨r, M, M, ⟨h1, rfl⟩, ⟨h2, rfl⟩, z_nochange hI⟩
  rcases z_wi a 0 4 (by omega) (by omega) with g | ⟨g, k, -, hk, rfl⟩
  · rw [← l_0, ← l_4] at g
    refine fin (-1000000001) ?_ ?_
    · unfold f_X9_ask f_X9_isSlot; rw [if_pos g]
    · unfold f_X10_ask f_X10_isSlot; rw [z_in, if_pos g]
  · rw [← l_0, ← l_4] at g
    rcases z_wi b 0 5 (by omega) (by omega) with o | ⟨o, v, -, hv, rfl⟩
    · rw [← l_0, ← l_5] at o
      refine fin (-1000000001) ?_ ?_
      · unfold f_X9_ask f_X9_isSlot f_X9_isKind; rw [g, if_neg (by decide), if_pos o]
      · unfold f_X10_ask f_X10_isSlot; rw [z_in, z_in, g, if_neg (by decide), if_pos o]
    · rw [← l_0, ← l_5] at o
      obtain ⟨t1, th, hth, t2, t3, t4, t5⟩ := slt k (by omega)
      have ib : bw_ib (nI k) 5 = true := z_ib (by omega) (by omega)
      have ic : (nI k).toNatClampNeg = k := nI_clamp (by omega)
      have c1 : f_X9_ask M (nI k) (nI v) = bw_ml (f_X5_finding M (73 + 4 * k) (1 : Int32)) fun x6 => (if x6 = 0 then (f_X9_isUnder M (M ((73 + 4 * k) + 1) 0) (nI v)).bind fun q8 => (if q8 = 0 then some (-1000000012 : Int32) else some (f_X0_worth M ((73 + 4 * k) + 1))) else some x6) := by
        unfold f_X9_ask f_X9_isSlot f_X9_isKind; rw [g, if_neg (by decide), o, if_neg (by decide), ib, if_pos rfl, ic]
      have c2 : f_X10_ask M (nI k) (nI v) = (if (M 123 k) = 0 then some (-1000000011 : Int32) else (if (M 123 k) = (1 : Int32) then some (if (f_X10_isUnder (M 124 k) (nI v)) = 0 then (-1000000012 : Int32) else M 125 k) else some (-1000000012 : Int32))) := by
        unfold f_X10_ask f_X10_isSlot; rw [z_in, z_in, g, if_neg (by decide), o, if_neg (by decide), ib, if_pos rfl, ic]
      unfold f_X5_finding at c1
      rw [t1, t2] at c1
      rw [t2] at c2
      rcases (by omega : th = 0 ∨ th = 1 ∨ th = 2 ∨ th = 3) with rfl | rfl | rfl | rfl
      · exact fin (-1000000011) c1 c2
      · obtain ⟨h1, ⟨j, hj, h2⟩, h3⟩ := t3 rfl
        rw [show 73 + 4 * k + 1 = 74 + 4 * k by omega, h1, h2, z_under M hj hv] at c1
        rw [h2] at c2
        by_cases e : f_X10_isUnder (nI j) (nI v) = 0
        · rw [e] at c1 c2
          exact fin (-1000000012) c1 c2
        · refine fin (M 125 k) (c1.trans ?_) (c2.trans ?_)
          · rw [z_ml, if_pos (by decide), Option.bind_some, if_neg e, h3]
          · rw [if_neg (by decide), if_pos (by decide), if_neg e]
      · exact fin (-1000000012) c1 c2
      · exact fin (-1000000012) c1 c2
theorem op_item : Op_item Inv := by
  intro n M a b hn hI
  have hI' := hI
  obtain ⟨-, -, -, -, -, slt, -⟩ := hI'
  have fin : ∀ r, f_X9_item M a b = some r → f_X10_item M a b = some r → ∃ (r : Int32) (M1 M2 : Mem), (f_X9_item M a b = some r ∧ M1 = M) ∧ (f_X10_item M1 a b = some r ∧ M2 = M1) ∧ Inv (n + 1) M2 :=
    fun r h1 h2 => ⟨r, M, M, ⟨h1, rfl⟩, ⟨h2, rfl⟩, z_nochange hI⟩
  rcases z_wi a 0 4 (by omega) (by omega) with g | ⟨g, k, -, hk, rfl⟩
  · rw [← l_0, ← l_4] at g
    refine fin (-1000000001) ?_ ?_
    · unfold f_X9_item f_X9_isSlot; rw [if_pos g]
    · unfold f_X10_item f_X10_isSlot; rw [z_in, if_pos g]
  · rw [← l_0, ← l_4] at g
    obtain ⟨t1, th, hth, t2, t3, t4, t5⟩ := slt k (by omega)
    have ib : bw_ib (nI k) 5 = true := z_ib (by omega) (by omega)
    have ic : (nI k).toNatClampNeg = k := nI_clamp (by omega)
    have c1 : f_X9_item M (nI k) b = bw_ml (f_X5_finding M (73 + 4 * k) (2 : Int32)) fun x4 => (if x4 = 0 then (if (f_X4_hasPlaces M ((73 + 4 * k) + 2) b (1 : Int32)) = 0 then some (-1000000013 : Int32) else if bw_ib b 24 = true then some (if (M (((73 + 4 * k) + 2) + 1) b.toNatClampNeg) = (-1000000005 : Int32) then (-1000000012 : Int32) else M (((73 + 4 * k) + 2) + 1) b.toNatClampNeg) else none) else some x4) := by
      unfold f_X9_item f_X9_isSlot; rw [g, if_neg (by decide), ib, if_pos rfl, ic]
    have c2 : f_X10_item M (nI k) b = (if (M 123 k) = 0 then some (-1000000011 : Int32) else (if (M 123 k) = (2 : Int32) then (if (f_X9_isWithin b (0 : Int32) ((M 124 k) - (1 : Int32))) = 0 then some (-1000000013 : Int32) else if bw_ib (((24 : Int32) * nI k) + b) 120 = true then bw_ml (M 126 (((24 : Int32) * nI k) + b).toNatClampNeg) fun x9 => some (if x9 = (-1000000005 : Int32) then (-1000000012 : Int32) else x9) else none) else some (-1000000012 : Int32))) := by
      unfold f_X10_item f_X10_isSlot; rw [z_in, z_in, g, if_neg (by decide), ib, if_pos rfl, ic]
    unfold f_X5_finding at c1
    rw [t1, t2] at c1
    rw [t2] at c2
    rcases (by omega : th = 0 ∨ th = 1 ∨ th = 2 ∨ th = 3) with rfl | rfl | rfl | rfl
    · exact fin (-1000000011) c1 c2
    · exact fin (-1000000012) c1 c2
    · obtain ⟨⟨p, hp, h1, h2⟩, h3⟩ := t4 rfl
      rw [z_ml, if_pos (by decide), show 73 + 4 * k + 2 = 75 + 4 * k by omega, z_hp1 h1 hp, show 75 + 4 * k + 1 = 76 + 4 * k by omega] at c1
      rw [if_neg (by decide), if_pos (by decide), h2] at c2
      rcases z_wi1 b p (by omega) with o | ⟨o, j, hj, rfl⟩
      · rw [if_pos o] at c1 c2
        exact fin _ c1 c2
      · rw [o, if_neg (by decide), z_ib (by omega) (by omega), if_pos rfl, nI_clamp (by omega), h3 j (by omega)] at c1
        rw [o, if_neg (by decide), l_24, pk_mul, nI_add, z_ib (by omega) (by omega), if_pos rfl, nI_clamp (by omega), z_ml] at c2
        exact fin _ c1 c2
    · exact fin (-1000000012) c1 c2
theorem op_rest : Op_rest Inv := by
  intro n M a b hn hI
  have hI' := hI
  obtain ⟨-, -, -, -, -, slt, -⟩ := hI'
  have fin : ∀ r, f_X9_rest M a b = some r → f_X10_rest M a b = some r → ∃ (r : Int32) (M1 M2 : Mem), (f_X9_rest M a b = some r ∧ M1 = M) ∧ (f_X10_rest M1 a b = some r ∧ M2 = M1) ∧ Inv (n + 1) M2 :=
    fun r h1 h2 => ⟨r, M, M, ⟨h1, rfl⟩, ⟨h2, rfl⟩, z_nochange hI⟩
  rcases z_wi a 0 4 (by omega) (by omega) with g | ⟨g, k, -, hk, rfl⟩
  · rw [← l_0, ← l_4] at g
    refine fin (-1000000001) ?_ ?_
    · unfold f_X9_rest f_X9_isSlot; rw [if_pos g]
    · unfold f_X10_rest f_X10_isSlot; rw [z_in, if_pos g]
  · rw [← l_0, ← l_4] at g
    obtain ⟨t1, th, hth, t2, t3, t4, t5⟩ := slt k (by omega)
    have ib : bw_ib (nI k) 5 = true := z_ib (by omega) (by omega)
    have ic : (nI k).toNatClampNeg = k := nI_clamp (by omega)
    have c1 : f_X9_rest M (nI k) b = bw_ml (f_X5_finding M (73 + 4 * k) (3 : Int32)) fun x4 => (if x4 = 0 then (if b = 0 then some (-1000000002 : Int32) else if ¬ b = 0 then some (bw_rem (M (73 + 4 * k) 3) b) else none) else some x4) := by
      unfold f_X9_rest f_X9_isSlot; rw [g, if_neg (by decide), ib, if_pos rfl, ic]
    have c2 : f_X10_rest M (nI k) b = (if (M 123 k) = 0 then some (-1000000011 : Int32) else (if (M 123 k) = (3 : Int32) then (if b = 0 then some (-1000000002 : Int32) else (if b = (-1 : Int32) then some (0 : Int32) else if ¬ b = 0 then some (bw_rem (M 124 k) b) else none)) else some (-1000000012 : Int32))) := by
      unfold f_X10_rest f_X10_isSlot; rw [z_in, g, if_neg (by decide), ib, if_pos rfl, ic]
    unfold f_X5_finding at c1
    rw [t1, t2] at c1
    rw [t2] at c2
    rcases (by omega : th = 0 ∨ th = 1 ∨ th = 2 ∨ th = 3) with rfl | rfl | rfl | rfl
    · exact fin (-1000000011) c1 c2
    · exact fin (-1000000012) c1 c2
    · exact fin (-1000000012) c1 c2
    · rw [z_ml, if_pos (by decide), t5 rfl] at c1
      rw [if_neg (by decide), if_pos (by decide)] at c2
      by_cases e : b = 0
      · rw [if_pos e] at c1 c2
        exact fin _ c1 c2
      · rw [if_neg e, if_pos e] at c1
        rw [if_neg e] at c2
        by_cases e1 : b = -1
        · rw [if_pos e1] at c2
          have : bw_rem (M 124 k) b = 0 := by
            rw [e1]
            unfold bw_rem
            generalize M 124 k = x
            have h1 : x / -1 = -x := by
              apply Int32.toInt_inj.mp
              rw [Int32.toInt_div, show (-1 : Int32).toInt = -1 from by decide, Int.tdiv_neg, Int.tdiv_one, Int32.toInt_neg]
            have h2 : -x * -1 = x := by
              rw [Int32.mul_neg, Int32.mul_one, Int32.neg_neg]
            rw [h1, h2, Int32.sub_self]
          rw [this] at c1
          exact fin _ c1 c2
        · rw [if_neg e1, if_pos e] at c2
          exact fin _ c1 c2
theorem z_mLay {k j : Nat} {v4 : Int32} (hk : k < 5) (hj : j < 4) : ∀ r i fu (M : Mem), i + r = 24 → r < fu → ∃ M', f_X10_lay_L150 (nI k) 2 (nI j) v4 fu (nI i) M = some (v4, M') ∧ (∀ x, M' 126 x = if 24 * k + i ≤ x ∧ x < 24 * k + 24 then M 122 (24 * j + (x - 24 * k)) else M 126 x) ∧ ∀ b, b ≠ 126 → M' b = M b := by
  intro r
  induction r with
  | zero =>
    intro i fu M h1 h2
    obtain ⟨fu, rfl⟩ : ∃ f, fu = f + 1 := ⟨fu - 1, by omega⟩
    refine ⟨M, ?_, fun j => by rw [if_neg (by omega)], fun _ _ => rfl⟩
    rw [f_X10_lay_L150, l_24, if_pos (nI_le (by omega) (by omega))]
  | succ r ih =>
    intro i fu M h1 h2
    obtain ⟨fu, rfl⟩ : ∃ f, fu = f + 1 := ⟨fu - 1, by omega⟩
    obtain ⟨M', e1, e2, e3⟩ := ih (i + 1) fu (bw_up M 126 (24 * k + i) (M 122 (24 * j + i))) (by omega) (by omega)
    refine ⟨M', ?_, ?_, ?_⟩
    · rw [f_X10_lay_L150, l_24, if_neg (nI_ge (by omega) (by omega)), if_pos rfl, pk_mul, pk_mul, nI_add, nI_add, z_ib (by omega) (by omega), if_pos rfl, z_ib (by omega) (by omega), if_pos rfl, nI_clamp (by omega), nI_clamp (by omega), z_ml, nI_1, e1]
    · intro x
      rw [e2 x]
      by_cases g : x = 24 * k + i
      · subst g
        rw [if_neg (by omega), if_pos (by omega), z_up_s]; congr 1; omega
      · rw [z_up_i _ _ _ _ g, z_up_k _ _ _ _ (by omega)]
        by_cases g2 : 24 * k + (i + 1) ≤ x ∧ x < 24 * k + 24
        · rw [if_pos g2, if_pos (by omega)]
        · rw [if_neg g2, if_neg (by omega)]
    · intro b hb; rw [e3 b hb, z_up_k _ _ _ _ hb]
theorem z_layI {n : Nat} {M M2 : Mem} (hI : Inv n M) {k : Nat} (hk : k < 5) (fr : ∀ b, b < 73 + 4 * k ∨ 76 + 4 * k < b → b ≠ 123 → b ≠ 124 → b ≠ 125 → b ≠ 126 → M2 b = M b) (f123 : ∀ i, i ≠ k → M2 123 i = M 123 i) (f124 : ∀ i, i ≠ k → M2 124 i = M 124 i) (f125 : ∀ i, i ≠ k → M2 125 i = M 125 i) (f126 : ∀ i, i < 24 * k ∨ 24 * k + 24 ≤ i → M2 126 i = M 126 i) (h : z_Slt1 M2 k) : Inv (n + 1) M2 := by
  have hI' := hI
  obtain ⟨-, -, tap, -, sht, slt, wai, -⟩ := hI'
  refine z_Inv_oth hI (fun x hx => fr x (by omega) (by omega) (by omega) (by omega) (by omega)) (fun x _ => by rw [fr 0 (by omega) (by omega) (by omega) (by omega) (by omega)]) (fun x _ _ => by rw [fr 93 (by omega) (by omega) (by omega) (by omega) (by omega)]) (z_Tap_fr (by rw [fr _ (by omega) (by omega) (by omega) (by omega) (by omega)]) (by rw [fr _ (by omega) (by omega) (by omega) (by omega) (by omega)]) (fr _ (by omega) (by omega) (by omega) (by omega) (by omega)) (fr _ (by omega) (by omega) (by omega) (by omega) (by omega)) tap) (z_Sht_fr (fun x h1 h2 => fr x (by omega) (by omega) (by omega) (by omega) (by omega)) (fr _ (by omega) (by omega) (by omega) (by omega) (by omega)) (fr _ (by omega) (by omega) (by omega) (by omega) (by omega)) (fr _ (by omega) (by omega) (by omega) (by omega) (by omega)) sht) ?_ (z_Wai_fr (by rw [fr _ (by omega) (by omega) (by omega) (by omega) (by omega)]) (by rw [fr _ (by omega) (by omega) (by omega) (by omega) (by omega)]) (fr _ (by omega) (by omega) (by omega) (by omega) (by omega)) (fr _ (by omega) (by omega) (by omega) (by omega) (by omega)) wai)
  intro c hc
  by_cases g : c = k
  · subst g; exact h
  · refine z_Slt1_fr (fr _ (by omega) (by omega) (by omega) (by omega) (by omega)) (fr _ (by omega) (by omega) (by omega) (by omega) (by omega)) (fr _ (by omega) (by omega) (by omega) (by omega) (by omega)) (fr _ (by omega) (by omega) (by omega) (by omega) (by omega)) (f123 c g) (f124 c g) (f125 c g) (fun i hi => f126 _ (by omega)) (slt c hc)
theorem z_worthE (M : Mem) (b : Nat) : f_X10_worthBy (M b 0) (M b 2 - M b 1 + 1) (M b 3) = f_X0_worth M b := rfl
theorem z_d4 {M : Mem} {s : Nat → Nat} (hM : z_MR M 94 s) {j w : Nat} (hj : j < 12) (hw : w < 4) : f_X10_board4 M (nI j) (nI w) = some (nI (s (110 + 4 * j + w))) := by
  unfold f_X10_board4
  rw [l_110, l_4, pk_mul, nI_add, nI_add, z_ib (by omega) (by omega), if_pos rfl, nI_clamp (by omega), hM _ (by omega) (by omega)]
theorem z_b4 {M : Mem} {s : Nat → Nat} (hM : z_MR M 94 s) {j w : Nat} (hj : j < 24) (hw : w < 4) : f_X10_book4 M (nI j) (nI w) = some (nI (s (14 + 4 * j + w))) := by
  unfold f_X10_book4
  rw [l_14, l_4, pk_mul, nI_add, nI_add, z_ib (by omega) (by omega), if_pos rfl, nI_clamp (by omega), hM _ (by omega) (by omega)]
theorem op_lay : Op_lay Inv := by
  intro n M a b c hn hI
  have hI' := hI
  obtain ⟨⟨s, u, hS⟩, -⟩ := hI'
  have hS' := hS
  obtain ⟨hW, hM, hz, c1, c2, c3, c4, hT⟩ := hS
  obtain ⟨w1, w2, w3, w4, w5, w6, w7, w8, w9⟩ := hW.1
  obtain ⟨d1, d2, d3, d4, d5, d6, d7⟩ := c1
  have m4 : M 94 4 = nI (s 4) := hM 4 (by omega) (by omega)
  have m5 : M 94 5 = nI (s 5) := hM 5 (by omega) (by omega)
  have m6 : M 94 6 = nI (s 6) := hM 6 (by omega) (by omega)
  have m7 : M 94 7 = nI (s 7) := hM 7 (by omega) (by omega)
  have sht := hI.2.2.2.2.1
  have slt := hI.2.2.2.2.2.1
  have bad : ∀ r, f_X9_lay M a b c = some (r, M) → f_X10_lay M a b c = some (r, M) → ∃ (r : Int32) (M1 M2 : Mem), (f_X9_lay M a b c = some (r, M1)) ∧ (f_X10_lay M1 a b c = some (r, M2)) ∧ Inv (n + 1) M2 :=
    fun r h1 h2 => ⟨r, M, M, h1, h2, z_nochange hI⟩
  rcases z_wi a 0 4 (by omega) (by omega) with g | ⟨g, k, -, hk, rfl⟩
  · rw [← l_0, ← l_4] at g
    refine bad (-1000000001) ?_ ?_
    · unfold f_X9_lay f_X9_isSlot; rw [if_pos g]
    · unfold f_X10_lay f_X10_isSlot; rw [z_in, if_pos g]
  · rw [← l_0, ← l_4] at g
    rcases z_wi b 0 3 (by omega) (by omega) with o | ⟨o, th, -, hth, rfl⟩
    · rw [← l_0, ← l_3] at o
      refine bad (-1000000001) ?_ ?_
      · unfold f_X9_lay f_X9_isSlot; rw [g, if_neg (by decide), if_pos o]
      · unfold f_X10_lay f_X10_isSlot; rw [z_in, z_in, g, if_neg (by decide), if_pos o]
    · rw [← l_0, ← l_3] at o
      obtain ⟨t1, -⟩ := slt k (by omega)
      have ib : bw_ib (nI k) 5 = true := z_ib (by omega) (by omega)
      have ic : (nI k).toNatClampNeg = k := nI_clamp (by omega)
      rcases (by omega : th = 0 ∨ th = 1 ∨ th = 2 ∨ th = 3) with rfl | rfl | rfl | rfl
      · -- nothing
        obtain ⟨M1, hM1⟩ : ∃ M1, M1 = bw_up M (73 + 4 * k) 0 (nI 0) := ⟨_, rfl⟩
        obtain ⟨M2, hM2⟩ : ∃ M2, M2 = bw_up (bw_up (bw_up M1 123 k (nI 0)) 124 k c) 125 k 0 := ⟨_, rfl⟩
        refine ⟨M 123 k, M1, M2, ?_, ?_, ?_⟩
        · unfold f_X9_lay f_X9_isSlot f_X9_lay_J35 f_X9_lay_J50 f_X9_lay_J72
          rw [g, if_neg (by decide), o, if_neg (by decide), if_neg (by decide), if_neg (by decide), if_neg (by decide), ib, if_pos rfl, ic, z_ml, z_ml, if_neg (by decide), if_neg (by decide), if_neg (by decide), t1, hM1]
        · unfold f_X10_lay f_X10_isSlot f_X10_lay_J29 f_X10_lay_J44 f_X10_lay_J62 f_X10_lay_J111 f_X10_lay_J146
          rw [z_in, z_in, g, if_neg (by decide), o, if_neg (by decide), if_neg (by decide), if_neg (by decide), if_neg (by decide), ib, if_pos rfl, ic, z_ml, if_neg (by decide), if_neg (by decide), if_pos rfl, z_ml, if_neg (by decide), if_pos rfl, z_ml]
          rw [show bw_fu = 1999 + 1 from rfl, f_X10_lay_L150, if_neg (by decide), if_neg (by decide), hM2, hM1, z_up_k _ _ _ _ (by omega)]
        · refine z_layI hI (k := k) (by omega) ?_ ?_ ?_ ?_ ?_ ?_
          · intro b h1 h2 h3 h4 h5; rw [hM2, hM1]; simp (disch := omega) only [z_up_k]
          · intro i hi; rw [hM2, hM1]; simp (disch := omega) only [z_up, if_pos, if_neg, ite_true, ite_false, and_self, and_true, true_and, and_false, false_and]
          · intro i hi; rw [hM2, hM1]; simp (disch := omega) only [z_up, if_pos, if_neg, ite_true, ite_false, and_self, and_true, true_and, and_false, false_and]
          · intro i hi; rw [hM2, hM1]; simp (disch := omega) only [z_up, if_pos, if_neg, ite_true, ite_false, and_self, and_true, true_and, and_false, false_and]
          · intro i hi; rw [hM2, hM1]; simp (disch := omega) only [z_up_k]
          · refine ⟨?_, 0, by omega, ?_, fun h => by omega, fun h => by omega, fun h => by omega⟩
            · rw [hM2, hM1]; simp (disch := omega) only [z_up, if_pos, if_neg, ite_true, ite_false, and_self, and_true, true_and, and_false, false_and]
            · rw [hM2, hM1]; simp (disch := omega) only [z_up, if_pos, if_neg, ite_true, ite_false, and_self, and_true, true_and, and_false, false_and]
      · -- a board
        rcases z_wi1 c (s 5) (by omega) with e | ⟨e, j, hj, rfl⟩
        · refine bad (-1000000001) ?_ ?_
          · unfold f_X9_lay f_X9_isSlot f_X6_hasBoard; rw [g, if_neg (by decide), o, if_neg (by decide), if_pos (by decide), d5, if_pos e]
          · unfold f_X10_lay f_X10_isSlot f_X10_isBoard; rw [z_in, z_in, z_in, g, if_neg (by decide), o, if_neg (by decide), if_pos (by decide), z_c5, m5, if_pos e]
        · obtain ⟨x0, x1, x2, x3⟩ := c3 j hj
          rw [show 25 + 8 + j = 33 + j by omega] at x0 x1 x2 x3
          obtain ⟨M1, hM1⟩ : ∃ M1, M1 = bw_up (bw_up (bw_up (bw_up (bw_up M (73 + 4 * k) 0 (nI 1)) (74 + 4 * k) 0 (M (33 + j) 0)) (74 + 4 * k) 1 (M (33 + j) 1)) (74 + 4 * k) 2 (M (33 + j) 2)) (74 + 4 * k) 3 (M (33 + j) 3) := ⟨_, rfl⟩
          have hM94 : M1 94 = M 94 := by rw [hM1]; simp (disch := omega) only [z_up_k]
          obtain ⟨M2, hM2⟩ : ∃ M2, M2 = bw_up (bw_up (bw_up M1 123 k (nI 1)) 124 k (M (33 + j) 0)) 125 k (f_X0_worth M (33 + j)) := ⟨_, rfl⟩
          refine ⟨M 123 k, M1, M2, ?_, ?_, ?_⟩
          · unfold f_X9_lay f_X9_isSlot f_X9_lay_J35 f_X9_lay_J50 f_X9_lay_J72 f_X6_hasBoard
            rw [g, if_neg (by decide), o, if_neg (by decide), if_pos (by decide), d5, e, if_neg (by decide), if_neg (by decide), if_neg (by decide), ib, if_pos rfl, ic, z_ml, z_ml, if_pos (by decide), z_ib (by omega) (by omega), if_pos rfl, nI_clamp (by omega), t1, hM1]
            simp (disch := omega) only [f_X0_become, z_ml, z_up, if_pos, if_neg, ite_true, ite_false, and_self, and_true, true_and, and_false, false_and, Option.bind_some]
            rw [show 73 + 4 * k + 1 = 74 + 4 * k by omega]
          · have hB : ∀ M9 : Mem, M9 94 = M 94 → z_MR M9 94 s := fun M9 h i g1 g2 => by rw [h]; exact hM i g1 g2
            have b0 : ∀ M9 : Mem, M9 94 = M 94 → f_X10_board4 M9 (nI j) 0 = some (M (33 + j) 0) := fun M9 h => by rw [l_0, z_d4 (hB M9 h) (by omega) (by omega), x0]; rfl
            have b1 : ∀ M9 : Mem, M9 94 = M 94 → f_X10_board4 M9 (nI j) 1 = some (M (33 + j) 1) := fun M9 h => by rw [l_1, z_d4 (hB M9 h) (by omega) (by omega), x1]; congr 3; omega
            have b2 : ∀ M9 : Mem, M9 94 = M 94 → f_X10_board4 M9 (nI j) 2 = some (M (33 + j) 2) := fun M9 h => by rw [l_2, z_d4 (hB M9 h) (by omega) (by omega), x2]; congr 3; omega
            have b3 : ∀ M9 : Mem, M9 94 = M 94 → f_X10_board4 M9 (nI j) 3 = some (M (33 + j) 3) := fun M9 h => by rw [l_3, z_d4 (hB M9 h) (by omega) (by omega), x3]; congr 3; omega
            unfold f_X10_lay f_X10_isSlot f_X10_isBoard f_X10_lay_J29 f_X10_lay_J44 f_X10_lay_J62 f_X10_lay_J111 f_X10_lay_J146 f_X10_booksOn
            rw [z_in, z_in, z_in, g, if_neg (by decide), o, if_neg (by decide), if_pos (by decide), z_c5, hM94, m5, e, if_neg (by decide), if_neg (by decide), if_neg (by decide), ib, if_pos rfl, ic, z_ml, if_pos (by decide)]
            have q1 : bw_up M1 123 k (nI 1) 94 = M 94 := by rw [z_up_k _ _ _ _ (by omega)]; exact hM94
            have q2 : bw_up (bw_up M1 123 k (nI 1)) 124 k (M (33 + j) 0) 94 = M 94 := by rw [z_up_k _ _ _ _ (by omega)]; exact q1
            rw [b0 _ q1, Option.bind_some, if_pos rfl, z_ml, if_pos (by decide), b0 _ q2, b1 _ q2, b2 _ q2, b3 _ q2, Option.bind_some, Option.bind_some, Option.bind_some, Option.bind_some, Option.bind_some, if_pos rfl, z_ml, z_worthE]
            rw [show bw_fu = 1999 + 1 from rfl, f_X10_lay_L150, if_neg (by decide), if_neg (by decide), hM2]
            rw [hM1]; simp (disch := omega) only [z_up_k]
          · refine z_layI hI (k := k) (by omega) ?_ ?_ ?_ ?_ ?_ ?_
            · intro b h1 h2 h3 h4 h5; rw [hM2, hM1]; simp (disch := omega) only [z_up_k]
            · intro i hi; rw [hM2, hM1]; simp (disch := omega) only [z_up, if_pos, if_neg, ite_true, ite_false, and_self, and_true, true_and, and_false, false_and]
            · intro i hi; rw [hM2, hM1]; simp (disch := omega) only [z_up, if_pos, if_neg, ite_true, ite_false, and_self, and_true, true_and, and_false, false_and]
            · intro i hi; rw [hM2, hM1]; simp (disch := omega) only [z_up, if_pos, if_neg, ite_true, ite_false, and_self, and_true, true_and, and_false, false_and]
            · intro i hi; rw [hM2, hM1]; simp (disch := omega) only [z_up_k]
            · refine ⟨?_, 1, by omega, ?_, fun _ => ⟨?_, ⟨s (110 + 4 * j), (hW.2.2.1 j hj).1, ?_⟩, ?_⟩, fun h => by omega, fun h => by omega⟩
              · rw [hM2, hM1]; simp (disch := omega) only [z_up, if_pos, if_neg, ite_true, ite_false, and_self, and_true, true_and, and_false, false_and]
              · rw [hM2, hM1]; simp (disch := omega) only [z_up, if_pos, if_neg, ite_true, ite_false, and_self, and_true, true_and, and_false, false_and]
              · rw [hM2, hM1]; simp (disch := omega) only [z_up, if_pos, if_neg, ite_true, ite_false, and_self, and_true, true_and, and_false, false_and]
              · rw [hM2]; simp (disch := omega) only [z_up, if_pos, if_neg, ite_true, ite_false, and_self, and_true, true_and, and_false, false_and]; exact x0
              · rw [hM2]
                simp (disch := omega) only [f_X0_worth, z_up, if_pos, if_neg, ite_true, ite_false, and_self, and_true, true_and, and_false, false_and]
                rw [hM1]
                simp (disch := omega) only [f_X0_worth, z_up, if_pos, if_neg, ite_true, ite_false, and_self, and_true, true_and, and_false, false_and]
      · -- a sheet
        rcases z_wi c 0 3 (by omega) (by omega) with e | ⟨e, j, -, hj, rfl⟩
        · rw [← l_0, ← l_3] at e
          refine bad (-1000000001) ?_ ?_
          · unfold f_X9_lay f_X9_isSlot f_X9_lay_J35 f_X9_isSheet; rw [g, if_neg (by decide), o, if_neg (by decide), if_neg (by decide), if_pos (by decide), if_pos e]
          · unfold f_X10_lay f_X10_isSlot f_X10_lay_J29 f_X10_isSheet; rw [z_in, z_in, z_in, g, if_neg (by decide), o, if_neg (by decide), if_neg (by decide), if_pos (by decide), if_pos e]
        · rw [← l_0, ← l_3] at e
          have jb : bw_ib (nI j) 4 = true := z_ib (by omega) (by omega)
          have jc : (nI j).toNatClampNeg = j := nI_clamp (by omega)
          obtain ⟨r1, r2, ⟨p, hp, r3, r3'⟩, r4⟩ := sht j (by omega)
          rcases r2 with s1 | s2
          · refine bad (-1000000011) ?_ ?_
            · unfold f_X9_lay f_X9_isSlot f_X9_lay_J35 f_X9_isSheet f_X9_lay_J50; rw [g, if_neg (by decide), o, if_neg (by decide), if_neg (by decide), if_pos (by decide), e, if_neg (by decide), if_pos (by decide), jb, if_pos rfl, jc, r1, if_pos s1]
            · unfold f_X10_lay f_X10_isSlot f_X10_lay_J29 f_X10_isSheet f_X10_lay_J44; rw [z_in, z_in, z_in, g, if_neg (by decide), o, if_neg (by decide), if_neg (by decide), if_pos (by decide), e, if_neg (by decide), if_pos (by decide), jb, if_pos rfl, jc, s1, if_neg (by decide)]
          · have n1 : ¬ M 120 j = -1 := by rcases s2 with e | e <;> (rw [e]; decide)
            have n2 : 0 ≤ M 120 j := by rcases s2 with e | e <;> (rw [e]; decide)
            obtain ⟨M1, hM1⟩ : ∃ M1, M1 = bw_cpy (bw_up (bw_up (bw_up M (73 + 4 * k) 0 (nI 2)) (75 + 4 * k) 0 (M (65 + 2 * j) 0)) (75 + 4 * k) 1 (M (65 + 2 * j) 1)) (66 + 2 * j) 0 (76 + 4 * k) 0 24 := ⟨_, rfl⟩
            have o1 : ∀ x, x ≠ 73 + 4 * k → x ≠ 75 + 4 * k → x ≠ 76 + 4 * k → M1 x = M x := by
              intro x h1 h2 h3; rw [hM1]; unfold bw_cpy; rw [z_rowk _ _ _ h3]; simp (disch := omega) only [z_up_k]
            have u1 : M1 (73 + 4 * k) 0 = nI 2 := by
              rw [hM1]; unfold bw_cpy; rw [z_rowk _ _ _ (by omega)]; simp (disch := omega) only [z_up, if_pos, if_neg, ite_true, ite_false, and_self, and_true, true_and, and_false, false_and]
            have u2 : M1 (75 + 4 * k) 1 = M (65 + 2 * j) 1 := by
              rw [hM1]; unfold bw_cpy; rw [z_rowk _ _ _ (by omega)]; simp (disch := omega) only [z_up, if_pos, if_neg, ite_true, ite_false, and_self, and_true, true_and, and_false, false_and]
            have u3 : ∀ i, i < 24 → M1 (76 + 4 * k) i = M (66 + 2 * j) i := by
              intro i hi
              rw [hM1]; unfold bw_cpy; rw [z_rows]
              rw [show ((0 : Int32).toNatClampNeg) = 0 from rfl, show ((24 : Int32).toNatClampNeg) = 24 from rfl, pk_cpy_in (by omega) (by omega)]
              simp (disch := omega) only [z_up_k]
              congr 1; omega
            obtain ⟨M2, e1, e2, e3⟩ := z_mLay (k := k) (j := j) (v4 := M 123 k) (by omega) (by omega) 24 0 bw_fu (bw_up (bw_up (bw_up M1 123 k (nI 2)) 124 k (nI p)) 125 k 0) (by omega) (by decide)
            refine ⟨M 123 k, M1, M2, ?_, ?_, ?_⟩
            · unfold f_X9_lay f_X9_isSlot f_X9_lay_J35 f_X9_isSheet f_X9_lay_J50 f_X9_lay_J72 f_X4_becomeAs
              rw [g, if_neg (by decide), o, if_neg (by decide), if_neg (by decide), if_pos (by decide), e, if_neg (by decide), if_pos (by decide), jb, if_pos rfl, jc, r1, if_neg n1, ib, if_pos rfl, ic, z_ml, z_ml, if_neg (by decide), if_pos (by decide), if_pos rfl, z_ml, z_ml, if_pos (by decide), z_ml, Option.bind_some, t1, hM1]
              rw [show 73 + 4 * k + 2 = 75 + 4 * k by omega, show 75 + 4 * k + 1 = 76 + 4 * k by omega, show 65 + 2 * j + 1 = 66 + 2 * j by omega]
              simp (disch := omega) only [z_up_k, r1]
            · unfold f_X10_lay f_X10_isSlot f_X10_lay_J29 f_X10_isSheet f_X10_lay_J44 f_X10_lay_J62 f_X10_lay_J111 f_X10_lay_J146
              rw [z_in, z_in, z_in, g, if_neg (by decide), o, if_neg (by decide), if_neg (by decide), if_pos (by decide), e, if_neg (by decide), if_pos (by decide), jb, if_pos rfl, jc, o1 120 (by omega) (by omega) (by omega), if_pos n2, ib, if_pos rfl, ic, z_ml, if_neg (by decide), if_pos (by decide), if_pos rfl, z_up_k _ _ _ _ (by omega), o1 121 (by omega) (by omega) (by omega), r3', if_pos rfl, z_ml, if_neg (by decide), if_pos rfl, z_ml, o1 123 (by omega) (by omega) (by omega), l_0]
              exact e1
            · have fr : ∀ x, x ≠ 73 + 4 * k → x ≠ 75 + 4 * k → x ≠ 76 + 4 * k → x ≠ 123 → x ≠ 124 → x ≠ 125 → x ≠ 126 → M2 x = M x := by
                intro x h1 h2 h3 h4 h5 h6 h7
                rw [e3 x h7]; simp (disch := omega) only [z_up_k]; exact o1 x h1 h2 h3
              refine z_layI hI (k := k) (by omega) ?_ ?_ ?_ ?_ ?_ ?_
              · intro b h1 h2 h3 h4 h5; exact fr b (by omega) (by omega) (by omega) h2 h3 h4 h5
              · intro i hi; rw [e3 _ (by omega)]; simp (disch := omega) only [z_up, if_pos, if_neg, ite_true, ite_false, and_self, and_true, true_and, and_false, false_and]; rw [o1 _ (by omega) (by omega) (by omega)]
              · intro i hi; rw [e3 _ (by omega)]; simp (disch := omega) only [z_up, if_pos, if_neg, ite_true, ite_false, and_self, and_true, true_and, and_false, false_and]; rw [o1 _ (by omega) (by omega) (by omega)]
              · intro i hi; rw [e3 _ (by omega)]; simp (disch := omega) only [z_up, if_pos, if_neg, ite_true, ite_false, and_self, and_true, true_and, and_false, false_and]; rw [o1 _ (by omega) (by omega) (by omega)]
              · intro i hi; rw [e2, if_neg (by omega)]; simp (disch := omega) only [z_up_k]; rw [o1 _ (by omega) (by omega) (by omega)]
              · refine ⟨?_, 2, by omega, ?_, fun h => by omega, fun _ => ⟨⟨p, hp, ?_, ?_⟩, ?_⟩, fun h => by omega⟩
                · rw [e3 _ (by omega), e3 _ (by omega)]; simp (disch := omega) only [z_up, if_pos, if_neg, ite_true, ite_false, and_self, and_true, true_and, and_false, false_and]; exact u1
                · rw [e3 _ (by omega)]; simp (disch := omega) only [z_up, if_pos, if_neg, ite_true, ite_false, and_self, and_true, true_and, and_false, false_and]
                · rw [e3 _ (by omega)]; simp (disch := omega) only [z_up_k]; rw [u2]; exact r3
                · rw [e3 _ (by omega)]; simp (disch := omega) only [z_up, if_pos, if_neg, ite_true, ite_false, and_self, and_true, true_and, and_false, false_and]
                · intro i hi
                  rw [e2, if_pos (by omega), e3 _ (by omega)]
                  simp (disch := omega) only [z_up_k]
                  rw [u3 i hi, o1 _ (by omega) (by omega) (by omega), r4 i hi]; congr 1; omega
      · -- a number
        obtain ⟨M1, hM1⟩ : ∃ M1, M1 = bw_up (bw_up M (73 + 4 * k) 0 (nI 3)) (73 + 4 * k) 3 c := ⟨_, rfl⟩
        obtain ⟨M2, hM2⟩ : ∃ M2, M2 = bw_up (bw_up (bw_up M1 123 k (nI 3)) 124 k c) 125 k 0 := ⟨_, rfl⟩
        refine ⟨M 123 k, M1, M2, ?_, ?_, ?_⟩
        · unfold f_X9_lay f_X9_isSlot f_X9_lay_J35 f_X9_lay_J50 f_X9_lay_J72
          rw [g, if_neg (by decide), o, if_neg (by decide), if_neg (by decide), if_neg (by decide), if_neg (by decide), ib, if_pos rfl, ic, z_ml, z_ml, if_neg (by decide), if_neg (by decide), if_pos (by decide), z_ml, t1, hM1]
        · unfold f_X10_lay f_X10_isSlot f_X10_lay_J29 f_X10_lay_J44 f_X10_lay_J62 f_X10_lay_J111 f_X10_lay_J146
          rw [z_in, z_in, g, if_neg (by decide), o, if_neg (by decide), if_neg (by decide), if_neg (by decide), if_neg (by decide), ib, if_pos rfl, ic, z_ml, if_neg (by decide), if_neg (by decide), if_pos rfl, z_ml, if_neg (by decide), if_pos rfl, z_ml]
          rw [show bw_fu = 1999 + 1 from rfl, f_X10_lay_L150, if_neg (by decide), if_neg (by decide), hM2]
          rw [hM1]; simp (disch := omega) only [z_up_k]
        · refine z_layI hI (k := k) (by omega) ?_ ?_ ?_ ?_ ?_ ?_
          · intro b h1 h2 h3 h4 h5; rw [hM2, hM1]; simp (disch := omega) only [z_up_k]
          · intro i hi; rw [hM2, hM1]; simp (disch := omega) only [z_up, if_pos, if_neg, ite_true, ite_false, and_self, and_true, true_and, and_false, false_and]
          · intro i hi; rw [hM2, hM1]; simp (disch := omega) only [z_up, if_pos, if_neg, ite_true, ite_false, and_self, and_true, true_and, and_false, false_and]
          · intro i hi; rw [hM2, hM1]; simp (disch := omega) only [z_up, if_pos, if_neg, ite_true, ite_false, and_self, and_true, true_and, and_false, false_and]
          · intro i hi; rw [hM2, hM1]; simp (disch := omega) only [z_up_k]
          · refine ⟨?_, 3, by omega, ?_, fun h => by omega, fun h => by omega, fun _ => ?_⟩
            · rw [hM2, hM1]; simp (disch := omega) only [z_up, if_pos, if_neg, ite_true, ite_false, and_self, and_true, true_and, and_false, false_and]
            · rw [hM2, hM1]; simp (disch := omega) only [z_up, if_pos, if_neg, ite_true, ite_false, and_self, and_true, true_and, and_false, false_and]
            · rw [hM2, hM1]; simp (disch := omega) only [z_up, if_pos, if_neg, ite_true, ite_false, and_self, and_true, true_and, and_false, false_and]
