/-! level 2: copy, lay, ask, item, rest -/
theorem z_subI {a b : Nat} (ha : a < 2 ^ 31) (hb : b < 2 ^ 31) : (nI a - nI b).toInt = (a : Int) - b := by
  rw [Int32.toInt_sub, nI_toInt ha, nI_toInt hb]
  unfold Int.bmod
  dsimp only
  split <;> omega
theorem z_hpO {M : Mem} {t p : Nat} (h : M t 1 = nI p) (hp : p ≤ 24) (x m : Int32) : (f_X4_hasPlaces M t x m = 0 ∧ (x < 0 ∨ m < 0 ∨ nI p - m < x)) ∨ (f_X4_hasPlaces M t x m = 1 ∧ ∃ i k, x = nI i ∧ m = nI k ∧ i + k ≤ p) := by
  unfold f_X4_hasPlaces
  rw [h]
  rcases z_wi x 0 p (by omega) (by omega) with g | ⟨g, i, -, hi, rfl⟩
  · rw [← l_0] at g
    rw [if_pos g]
    left
    refine ⟨rfl, ?_⟩
    by_cases h1 : x < 0
    · exact Or.inl h1
    · by_cases h2 : m < 0
      · exact Or.inr (Or.inl h2)
      · right; right
        obtain ⟨i, hi, rfl⟩ := nI_of h1
        obtain ⟨k, hk, rfl⟩ := nI_of h2
        rw [l_0, z_wiN hi (by omega) (by omega)] at g
        rw [Int32.lt_iff_toInt_lt, z_subI (by omega) hk, nI_toInt hi]
        by_cases e : 0 ≤ i ∧ i ≤ p
        · rw [if_pos e] at g; exact absurd g (by decide)
        · omega
  · rw [← l_0] at g
    rw [g, if_neg (by decide), pk_sub hi]
    rcases z_wi m 0 (p - i) (by omega) (by omega) with g2 | ⟨g2, k, -, hk, rfl⟩
    · rw [← l_0] at g2
      rw [if_pos g2]
      left
      refine ⟨rfl, ?_⟩
      by_cases h2 : m < 0
      · exact Or.inr (Or.inl h2)
      · right; right
        obtain ⟨k, hk, rfl⟩ := nI_of h2
        rw [l_0, z_wiN hk (by omega) (by omega)] at g2
        rw [Int32.lt_iff_toInt_lt, z_subI (by omega) hk, nI_toInt (by omega)]
        by_cases e : 0 ≤ k ∧ k ≤ p - i
        · rw [if_pos e] at g2; exact absurd g2 (by decide)
        · omega
    · rw [← l_0] at g2
      rw [g2, if_neg (by decide)]
      right
      exact ⟨rfl, i, k, rfl, rfl, by omega⟩
theorem z_cpB {b y m : Nat} (hb : b < 4) (hm : y + m ≤ 24) : ∀ r i fu (M : Mem), i + r = m → r < fu → ∃ M', f_X10_copy_L142 (nI b) (nI y) (nI m) fu (nI i) M = some (nI m, M') ∧ (∀ j, M' 122 j = if 24 * b + y + i ≤ j ∧ j < 24 * b + y + m then M 127 (j - (24 * b + y)) else M 122 j) ∧ ∀ b, b ≠ 122 → M' b = M b := by
  intro r
  induction r with
  | zero =>
    intro i fu M h1 h2
    obtain ⟨fu, rfl⟩ : ∃ f, fu = f + 1 := ⟨fu - 1, by omega⟩
    refine ⟨M, ?_, fun j => by rw [if_neg (by omega)], fun _ _ => rfl⟩
    rw [f_X10_copy_L142, if_pos (nI_le (by omega) (by omega))]
  | succ r ih =>
    intro i fu M h1 h2
    obtain ⟨fu, rfl⟩ : ∃ f, fu = f + 1 := ⟨fu - 1, by omega⟩
    obtain ⟨M', e1, e2, e3⟩ := ih (i + 1) fu (bw_up M 122 (24 * b + y + i) (M 127 i)) (by omega) (by omega)
    refine ⟨M', ?_, ?_, ?_⟩
    · rw [f_X10_copy_L142, if_neg (nI_ge (by omega) (by omega)), z_ib (by omega) (by omega), if_pos rfl, l_24, pk_mul, nI_add, nI_add, z_ib (by omega) (by omega), if_pos rfl, nI_clamp (by omega), nI_clamp (by omega), z_ml, nI_1, e1]
    · intro j
      rw [e2 j]
      by_cases g : j = 24 * b + y + i
      · subst g
        rw [if_neg (by omega), if_pos (by omega), z_up_s]; congr 1; omega
      · rw [z_up_i _ _ _ _ g, z_up_k _ _ _ _ (by omega)]
        by_cases g2 : 24 * b + y + (i + 1) ≤ j ∧ j < 24 * b + y + m
        · rw [if_pos g2, if_pos (by omega)]
        · rw [if_neg g2, if_neg (by omega)]
    · intro b hb; rw [e3 b hb, z_up_k _ _ _ _ hb]
theorem z_cpA {a x m : Nat} {v3 v4 : Int32} (ha : a < 4) (hm : x + m ≤ 24) : ∀ r i fu (M : Mem), i + r = m → r < fu → ∃ M', f_X10_copy_L105 (nI a) (nI x) v3 v4 (nI m) fu (nI i) M = f_X10_copy_L142 v3 v4 (nI m) bw_fu 0 M' ∧ (∀ j, M' 127 j = if i ≤ j ∧ j < m then M 122 (24 * a + x + j) else M 127 j) ∧ ∀ b, b ≠ 127 → M' b = M b := by
  intro r
  induction r with
  | zero =>
    intro i fu M h1 h2
    obtain ⟨fu, rfl⟩ : ∃ f, fu = f + 1 := ⟨fu - 1, by omega⟩
    refine ⟨M, ?_, fun j => by rw [if_neg (by omega)], fun _ _ => rfl⟩
    rw [f_X10_copy_L105, if_pos (nI_le (by omega) (by omega))]
  | succ r ih =>
    intro i fu M h1 h2
    obtain ⟨fu, rfl⟩ : ∃ f, fu = f + 1 := ⟨fu - 1, by omega⟩
    obtain ⟨M', e1, e2, e3⟩ := ih (i + 1) fu (bw_up M 127 i (M 122 (24 * a + x + i))) (by omega) (by omega)
    refine ⟨M', ?_, ?_, ?_⟩
    · rw [f_X10_copy_L105, if_neg (nI_ge (by omega) (by omega)), l_24, pk_mul, nI_add, nI_add, z_ib (by omega) (by omega), if_pos rfl, z_ib (by omega) (by omega), if_pos rfl, nI_clamp (by omega), nI_clamp (by omega), z_ml, nI_1, e1]
    · intro j
      rw [e2 j]
      by_cases g : j = i
      · subst g
        rw [if_neg (by omega), if_pos (by omega), z_up_s]
      · rw [z_up_i _ _ _ _ g, z_up_k _ _ _ _ (by omega)]
        by_cases g2 : i + 1 ≤ j ∧ j < m
        · rw [if_pos g2, if_pos (by omega)]
        · rw [if_neg g2, if_neg (by omega)]
    · intro b hb; rw [e3 b hb, z_up_k _ _ _ _ hb]
theorem op_copy : Op_copy Inv := by
  intro n M v1 v2 v3 v4 v5 hn hI
  have hI' := hI
  have hfu : 30 < bw_fu := by decide
  obtain ⟨-, -, tap, -, sht, slt, wai, -⟩ := hI'
  have bad : ∀ r, f_X9_copy M v1 v2 v3 v4 v5 = some (r, M) → f_X10_copy M v1 v2 v3 v4 v5 = some (r, M) → ∃ (r : Int32) (M1 M2 : Mem), (f_X9_copy M v1 v2 v3 v4 v5 = some (r, M1)) ∧ (f_X10_copy M1 v1 v2 v3 v4 v5 = some (r, M2)) ∧ Inv (n + 1) M2 :=
    fun r h1 h2 => ⟨r, M, M, h1, h2, z_nochange hI⟩
  rcases z_wi v1 0 3 (by omega) (by omega) with g | ⟨g, a, -, ha, rfl⟩
  · rw [← l_0, ← l_3] at g
    refine bad (-1000000001) ?_ ?_
    · unfold f_X9_copy f_X9_isSheet; rw [if_pos g]
    · unfold f_X10_copy f_X10_isSheet; rw [z_in, if_pos g]
  · rcases z_wi v3 0 3 (by omega) (by omega) with o | ⟨o, b, -, hb, rfl⟩
    · rw [← l_0, ← l_3] at g o
      refine bad (-1000000001) ?_ ?_
      · unfold f_X9_copy f_X9_isSheet; rw [g, if_neg (by decide), if_pos o]
      · unfold f_X10_copy f_X10_isSheet; rw [z_in, z_in, g, if_neg (by decide), if_pos o]
    · rw [← l_0, ← l_3] at g o
      obtain ⟨t1, t2, ⟨p, hp, t3, t3'⟩, t4⟩ := sht a (by omega)
      obtain ⟨q1, q2, ⟨q, hq, q3, q3'⟩, q4⟩ := sht b (by omega)
      have ib : bw_ib (nI a) 4 = true := z_ib (by omega) (by omega)
      have ic : (nI a).toNatClampNeg = a := nI_clamp (by omega)
      have jb : bw_ib (nI b) 4 = true := z_ib (by omega) (by omega)
      have jc : (nI b).toNatClampNeg = b := nI_clamp (by omega)
      rcases t2 with s1 | s2
      · refine bad (-1000000011) ?_ ?_
        · unfold f_X9_copy f_X9_isSheet; rw [g, if_neg (by decide), o, if_neg (by decide), ib, if_pos rfl, jb, if_pos rfl, ic, jc, t1, if_pos s1]
        · unfold f_X10_copy f_X10_isSheet; rw [z_in, z_in, g, if_neg (by decide), o, if_neg (by decide), ib, if_pos rfl, ic, s1, if_pos (by decide)]
      · have n1 : ¬ M 120 a = -1 := by rcases s2 with e | e <;> (rw [e]; decide)
        have n2 : ¬ M 120 a < 0 := by rcases s2 with e | e <;> (rw [e]; decide)
        rcases q2 with u1 | u2
        · refine bad (-1000000011) ?_ ?_
          · unfold f_X9_copy f_X9_isSheet; rw [g, if_neg (by decide), o, if_neg (by decide), ib, if_pos rfl, jb, if_pos rfl, ic, jc, t1, if_neg n1, q1, if_pos u1]
          · unfold f_X10_copy f_X10_isSheet; rw [z_in, z_in, g, if_neg (by decide), o, if_neg (by decide), ib, if_pos rfl, ic, if_neg n2, jb, if_pos rfl, jc, u1, if_neg (by decide)]
        · have n3 : ¬ M 120 b = -1 := by rcases u2 with e | e <;> (rw [e]; decide)
          have n4 : 0 ≤ M 120 b := by rcases u2 with e | e <;> (rw [e]; decide)
          by_cases same : M 120 a = M 120 b
          · have cl : ∀ X, f_X9_copy M (nI a) v2 (nI b) v4 v5 = X ↔ (if (f_X4_hasPlaces M (65 + 2 * a) v2 v5) = 0 then some ((-1000000013 : Int32), M) else (if (f_X4_hasPlaces M (65 + 2 * b) v4 v5) = 0 then some ((-1000000013 : Int32), M) else if bw_cpok v2 v4 v5 24 24 = true then some (v5, bw_cpy M ((65 + 2 * a) + 1) v2 ((65 + 2 * b) + 1) v4 v5) else none)) = X := by
              intro X
              unfold f_X9_copy f_X9_isSheet; rw [g, if_neg (by decide), o, if_neg (by decide), ib, if_pos rfl, jb, if_pos rfl, ic, jc, t1, if_neg n1, q1, if_neg n3, if_pos same, z_ml]
            have ml : ∀ M1 : Mem, M1 120 = M 120 → M1 121 = M 121 → ∀ X, f_X10_copy M1 (nI a) v2 (nI b) v4 v5 = X ↔ (if v2 < 0 then some ((-1000000013 : Int32), M1) else (if v4 < 0 then some ((-1000000013 : Int32), M1) else (if v5 < 0 then some ((-1000000013 : Int32), M1) else (if (nI p - v5) < v2 then some ((-1000000013 : Int32), M1) else (if v4 ≤ (nI q - v5) then f_X10_copy_L105 (nI a) v2 (nI b) v4 v5 bw_fu (0 : Int32) M1 else some ((-1000000013 : Int32), M1)))))) = X := by
              intro M1 h120 h121 X
              unfold f_X10_copy f_X10_isSheet; rw [z_in, z_in, g, if_neg (by decide), o, if_neg (by decide), ib, if_pos rfl, ic, h120, if_neg n2, jb, if_pos rfl, jc, if_pos n4, if_pos same, h121, t3', q3']
            rcases z_hpO t3 hp v2 v5 with ⟨x1, x2⟩ | ⟨x1, i, k, rfl, rfl, x2⟩
            · refine bad (-1000000013) ((cl _).mpr ?_) ((ml M rfl rfl _).mpr ?_)
              · rw [if_pos x1]
              · rcases x2 with x2 | x2 | x2
                · first | rfl | rw [if_pos x2]
                · split
                  · rfl
                  · split
                    · rfl
                    · first | rfl | rw [if_pos x2]
                · split
                  · rfl
                  · split
                    · rfl
                    · split
                      · rfl
                      · first | rfl | rw [if_pos x2]
            · rcases z_hpO q3 hq v4 (nI k) with ⟨y1, y2⟩ | ⟨y1, j, k', rfl, hk', y2⟩
              · refine bad (-1000000013) ((cl _).mpr ?_) ((ml M rfl rfl _).mpr ?_)
                · rw [x1, if_neg (by decide), if_pos y1]
                · rcases y2 with y2 | y2 | y2
                  · split
                    · rfl
                    · first | rfl | rw [if_pos y2]
                  · exact absurd y2 (nI_pos (by omega))
                  · have : ¬ v4 ≤ nI q - nI k := Int32.not_le.mpr y2
                    split
                    · rfl
                    · split
                      · rfl
                      · split
                        · rfl
                        · split
                          · rfl
                          · first | rfl | rw [if_neg this]
              · have hkk : k' = k := by
                  have := congrArg Int32.toInt hk'
                  by_cases hb2 : k' < 2 ^ 31
                  · rw [nI_toInt (by omega), nI_toInt hb2] at this; omega
                  · omega
                subst hkk
                obtain ⟨M1, hM1⟩ : ∃ M1, M1 = bw_cpy M ((65 + 2 * a) + 1) (nI i) ((65 + 2 * b) + 1) (nI j) (nI k') := ⟨_, rfl⟩
                have o1 : ∀ x, x ≠ 66 + 2 * b → M1 x = M x := by
                  intro x hx; rw [hM1]; unfold bw_cpy; rw [z_rowk _ _ _ (by omega)]
                have r1 : M1 (66 + 2 * b) = va_cpy (M (66 + 2 * a)) (M (66 + 2 * b)) i j k' := by
                  rw [hM1]; unfold bw_cpy
                  rw [show 65 + 2 * b + 1 = 66 + 2 * b by omega, show 65 + 2 * a + 1 = 66 + 2 * a by omega, z_rows, nI_clamp (by omega), nI_clamp (by omega), nI_clamp (by omega)]
                obtain ⟨M2, e1, e2, e3⟩ := z_cpA (a := a) (x := i) (m := k') (v3 := nI b) (v4 := nI j) (by omega) (by omega) k' 0 bw_fu M1 (by omega) (by omega)
                obtain ⟨M3, f1, f2, f3⟩ := z_cpB (b := b) (y := j) (m := k') (by omega) (by omega) k' 0 bw_fu M2 (by omega) (by omega)
                have r2 : ∀ x, M3 122 x = if 24 * b + j ≤ x ∧ x < 24 * b + j + k' then M 122 (24 * a + i + (x - (24 * b + j))) else M 122 x := by
                  intro x
                  rw [f2 x]
                  by_cases g2 : 24 * b + j + 0 ≤ x ∧ x < 24 * b + j + k'
                  · rw [if_pos g2, if_pos (by omega), e2, if_pos (by omega), o1 _ (by omega)]
                  · rw [if_neg g2, if_neg (by omega), e3 _ (by omega), o1 _ (by omega)]
                have fr : ∀ x, x ≠ 66 + 2 * b → x ≠ 122 → x ≠ 127 → M3 x = M x := by
                  intro x h1 h2 h3; rw [f3 x h2, e3 x h3, o1 x h1]
                refine ⟨nI k', M1, M3, (cl _).mpr ?_, (ml M1 (o1 _ (by omega)) (o1 _ (by omega)) _).mpr ?_, ?_⟩
                · have ok : bw_cpok (nI i) (nI j) (nI k') 24 24 = true := by
                    unfold bw_cpok
                    rw [nI_clamp (by omega), nI_clamp (by omega), nI_clamp (by omega)]
                    simp [nI_pos' (show i < 2 ^ 31 by omega), nI_pos' (show j < 2 ^ 31 by omega), nI_pos' (show k' < 2 ^ 31 by omega)]
                    omega
                  rw [x1, y1, if_neg (by decide), if_neg (by decide), if_pos ok, hM1]
                · rw [if_neg (nI_pos (by omega)), if_neg (nI_pos (by omega)), if_neg (nI_pos (by omega)), pk_sub (by omega), pk_sub (by omega), if_neg (nI_nlt (by omega) (by omega)), if_pos (nI_le (by omega) (by omega)), l_0, e1, l_0, f1]
                · refine z_Inv_oth hI (fun x hx => fr x (by omega) (by omega) (by omega)) (fun x _ => by rw [fr 0 (by omega) (by omega) (by omega)]) (fun x _ _ => by rw [fr 93 (by omega) (by omega) (by omega)]) (z_Tap_fr (by rw [fr _ (by omega) (by omega) (by omega)]) (by rw [fr _ (by omega) (by omega) (by omega)]) (fr _ (by omega) (by omega) (by omega)) (fr _ (by omega) (by omega) (by omega)) tap) ?_ (z_Slt_fr (fun x h1 h2 => fr x (by omega) (by omega) (by omega)) (fr _ (by omega) (by omega) (by omega)) (fr _ (by omega) (by omega) (by omega)) (fr _ (by omega) (by omega) (by omega)) (fr _ (by omega) (by omega) (by omega)) slt) (z_Wai_fr (by rw [fr _ (by omega) (by omega) (by omega)]) (by rw [fr _ (by omega) (by omega) (by omega)]) (fr _ (by omega) (by omega) (by omega)) (fr _ (by omega) (by omega) (by omega)) wai)
                  intro c hc
                  by_cases gc : c = b
                  · subst gc
                    refine ⟨?_, ?_, ?_, ?_⟩
                    · rw [fr _ (by omega) (by omega) (by omega), fr _ (by omega) (by omega) (by omega)]; exact q1
                    · rw [fr _ (by omega) (by omega) (by omega)]; exact Or.inr u2
                    · rw [fr _ (by omega) (by omega) (by omega), fr _ (by omega) (by omega) (by omega)]; exact ⟨q, hq, q3, q3'⟩
                    · intro x hx
                      rw [r2, f3 _ (by omega), e3 _ (by omega), r1]
                      by_cases g2 : j ≤ x ∧ x < j + k'
                      · rw [pk_cpy_in g2.1 g2.2, if_pos (by omega), t4 _ (by omega)]; congr 1; omega
                      · rw [pk_cpy_out (by omega), if_neg (by omega)]; exact q4 x hx
                  · refine z_Sht1_fr (fr _ (by omega) (by omega) (by omega)) (fr _ (by omega) (by omega) (by omega)) (by rw [fr _ (by omega) (by omega) (by omega)]) (by rw [fr _ (by omega) (by omega) (by omega)]) ?_ (sht c hc)
                    intro x hx
                    rw [r2, if_neg (by omega)]
          · refine bad (-1000000012) ?_ ?_
            · unfold f_X9_copy f_X9_isSheet; rw [g, if_neg (by decide), o, if_neg (by decide), ib, if_pos rfl, jb, if_pos rfl, ic, jc, t1, if_neg n1, q1, if_neg n3, if_neg same]
            · unfold f_X10_copy f_X10_isSheet; rw [z_in, z_in, g, if_neg (by decide), o, if_neg (by decide), ib, if_pos rfl, ic, if_neg n2, jb, if_pos rfl, jc, if_pos n4, if_neg same]
