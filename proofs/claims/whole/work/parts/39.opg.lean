/-! level 2: sheet, mark -/
theorem z_wiM {j p : Nat} (hj : j < 2 ^ 31) (hp : p < 2 ^ 31) : f_X9_isWithin (nI j) 0 (nI p - 1) = if j < p then 1 else 0 := by
  cases p with
  | zero =>
    rcases z_wi1 (nI j) 0 (by omega) with h | ⟨-, q, hq, -⟩
    · rw [h, if_neg (by omega)]
    · omega
  | succ p =>
    have q := z_wiN (j := j) (a := 0) (b := p) hj (by omega) (by omega)
    rw [← l_0] at q
    rw [nI_pred, q]
    by_cases g : j < p + 1
    · rw [if_pos g, if_pos (by omega)]
    · rw [if_neg g, if_neg (by omega)]
theorem z_hp1 {M : Mem} {t p : Nat} (h : M t 1 = nI p) (hp : p ≤ 24) (x : Int32) : f_X4_hasPlaces M t x 1 = f_X9_isWithin x 0 (nI p - 1) := by
  unfold f_X4_hasPlaces
  rw [h]
  rcases z_wi x 0 p (by omega) (by omega) with g | ⟨g, j, -, hj, rfl⟩
  · rw [← l_0] at g
    rw [if_pos g]
    rcases z_wi1 x p (by omega) with k | ⟨k, j, hj, rfl⟩
    · rw [k]
    · rw [l_0, z_wiN (by omega) (by omega) (by omega), if_pos (by omega)] at g
      exact absurd g (by decide)
  · rw [← l_0] at g
    have q := z_wiN (j := 1) (a := 0) (b := p - j) (by omega) (by omega) (by omega)
    rw [← l_0, ← l_1] at q
    rw [g, if_neg (by decide), z_wiM (by omega) (by omega), pk_sub hj, q]
    by_cases k : j < p
    · rw [if_pos k, if_pos (show 0 ≤ 1 ∧ 1 ≤ p - j by omega), if_neg (by decide)]
    · rw [if_neg k, if_neg (show ¬ (0 ≤ 1 ∧ 1 ≤ p - j) by omega), if_pos (by decide)]
theorem z_wi3 (x : Int32) : f_X9_isWithin x (-1) 1 = 0 ∨ (f_X9_isWithin x (-1) 1 = 1 ∧ (x = -1 ∨ x = 0 ∨ x = 1)) := by
  unfold f_X9_isWithin
  by_cases h1 : x < -1
  · left; rw [if_pos h1]
  · by_cases h2 : 1 < x
    · left; rw [if_neg h1, if_pos h2]
    · right
      rw [if_neg h1, if_neg h2]
      refine ⟨rfl, ?_⟩
      rw [Int32.lt_iff_toInt_lt] at h1 h2
      have e1 : (-1 : Int32).toInt = -1 := by decide
      have e2 : (1 : Int32).toInt = 1 := by decide
      have e0 : (0 : Int32).toInt = 0 := by decide
      rw [e1] at h1
      rw [e2] at h2
      rcases (by omega : x.toInt = -1 ∨ x.toInt = 0 ∨ x.toInt = 1) with g | g | g
      · left; exact Int32.toInt_inj.mp (g.trans e1.symm)
      · right; left; exact Int32.toInt_inj.mp (g.trans e0.symm)
      · right; right; exact Int32.toInt_inj.mp (g.trans e2.symm)
theorem z_rowk (M : Mem) (k : Nat) (r : Nat → Int32) {b : Nat} (h : b ≠ k) : bw_row M k r b = M b := by unfold bw_row; rw [if_neg h]
theorem z_rows (M : Mem) (k : Nat) (r : Nat → Int32) : bw_row M k r k = r := by unfold bw_row; rw [if_pos rfl]
theorem z_mSheet {k : Nat} (hk : k < 4) : ∀ r i fu (M : Mem), i + r = 24 → r < fu → ∃ M', f_X10_sheet_L66 (nI k) fu (nI i) M = some (M 121 k, M') ∧ (∀ j, M' 122 j = if 24 * k + i ≤ j ∧ j < 24 * k + 24 then 0 else M 122 j) ∧ ∀ b, b ≠ 122 → M' b = M b := by
  intro r
  induction r with
  | zero =>
    intro i fu M h1 h2
    obtain ⟨fu, rfl⟩ : ∃ f, fu = f + 1 := ⟨fu - 1, by omega⟩
    refine ⟨M, ?_, fun j => by rw [if_neg (by omega)], fun _ _ => rfl⟩
    rw [f_X10_sheet_L66, l_24, if_pos (nI_le (by omega) (by omega)), z_ib (by omega) (by omega), if_pos rfl, nI_clamp (by omega)]
  | succ r ih =>
    intro i fu M h1 h2
    obtain ⟨fu, rfl⟩ : ∃ f, fu = f + 1 := ⟨fu - 1, by omega⟩
    obtain ⟨M', e1, e2, e3⟩ := ih (i + 1) fu (bw_up M 122 (24 * k + i) 0) (by omega) (by omega)
    refine ⟨M', ?_, ?_, ?_⟩
    · rw [f_X10_sheet_L66, l_24, if_neg (nI_ge (by omega) (by omega)), pk_mul, nI_add, z_ib (by omega) (by omega), if_pos rfl, nI_clamp (by omega), z_ml, nI_1, e1, z_up_k _ _ _ _ (by omega)]
    · intro j
      rw [e2 j]
      by_cases g : j = 24 * k + i
      · subst g
        rw [if_neg (by omega), if_pos (by omega), z_up_s]
      · rw [z_up_i _ _ _ _ g]
        by_cases g2 : 24 * k + (i + 1) ≤ j ∧ j < 24 * k + 24
        · rw [if_pos g2, if_pos (by omega)]
        · rw [if_neg g2, if_neg (by omega)]
    · intro b hb; rw [e3 b hb, z_up_k _ _ _ _ hb]
theorem op_sheet : Op_sheet Inv := by
  intro n M a b c hn hI
  have hI' := hI
  obtain ⟨-, -, tap, -, sht, slt, wai, -⟩ := hI'
  have bad : ∀ r, f_X9_sheet M a b c = some (r, M) → f_X10_sheet M a b c = some (r, M) → ∃ (r : Int32) (M1 M2 : Mem), (f_X9_sheet M a b c = some (r, M1)) ∧ (f_X10_sheet M1 a b c = some (r, M2)) ∧ Inv (n + 1) M2 :=
    fun r h1 h2 => ⟨r, M, M, h1, h2, z_nochange hI⟩
  rcases z_wi a 0 3 (by omega) (by omega) with g | ⟨g, k, -, hk, rfl⟩
  · rw [← l_0, ← l_3] at g
    refine bad (-1000000001) ?_ ?_
    · unfold f_X9_sheet f_X9_isSheet; rw [if_pos g]
    · unfold f_X10_sheet f_X10_isSheet; rw [z_in, if_pos g]
  · rw [← l_0, ← l_3] at g
    rcases z_wi3 b with o | ⟨o, ob⟩
    · refine bad (-1000000001) ?_ ?_
      · unfold f_X9_sheet f_X9_isSheet; rw [g, if_neg (by decide), if_pos o]
      · unfold f_X10_sheet f_X10_isSheet; rw [z_in, z_in, g, if_neg (by decide), if_pos o]
    · -- what is to be done, once the places are known
      have main : ∀ p, p ≤ 24 → ∃ M1 M2, f_X9_sheet_J29 M (nI k) b (nI p) = some (nI p, M1) ∧ f_X10_sheet_J62 (bw_up M1 120 k b) (nI k) (nI k) (nI p) = some (nI p, M2) ∧ Inv (n + 1) M2 := by
        intro p hp
        obtain ⟨M1, hM1⟩ : ∃ M1, M1 = bw_fill (bw_up (bw_up M (65 + 2 * k) 0 b) (65 + 2 * k) 1 (nI p)) (66 + 2 * k) 24 0 := ⟨_, rfl⟩
        have mm : f_X9_sheet_J29 M (nI k) b (nI p) = some (nI p, M1) ∧ ∃ M2, f_X10_sheet_J62 (bw_up M1 120 k b) (nI k) (nI k) (nI p) = some (nI p, M2) ∧ Inv (n + 1) M2 := by
         constructor
         · have h1 : f_X9_held (nI p) 0 24 = nI p := by
             unfold f_X9_held bw_max bw_min
             rw [l_0, l_24]
             by_cases g : p < 24
             · rw [if_pos (nI_lt g (by omega))]
               by_cases g2 : 0 < p
               · rw [if_pos (nI_lt g2 (by omega))]
               · rw [if_neg (nI_nlt (by omega) (by omega))]; congr 1; omega
             · rw [if_neg (nI_nlt (by omega) (by omega)), if_pos (nI_lt (by omega) (by omega))]; congr 1; omega
           unfold f_X9_sheet_J29 f_X4_become
           rw [h1]
           rw [l_24, if_pos (nI_le (by omega) (by omega)), if_pos (nI_pos' (by omega)), z_ib (by omega) (by omega), if_pos rfl, nI_clamp (by omega), z_ml, z_ml, z_ml, Option.bind_some]
           rw [show 65 + 2 * k + 1 = 66 + 2 * k by omega, hM1]
         · skip
           have o1 : ∀ x, x ≠ 65 + 2 * k → x ≠ 66 + 2 * k → M1 x = M x := by
             intro x h1 h2; rw [hM1]; unfold bw_fill; rw [z_rowk _ _ _ h2]; simp (disch := omega) only [z_up_k]
           obtain ⟨M2, e1, e2, e3⟩ := z_mSheet (k := k) (by omega) 24 0 bw_fu (bw_up (bw_up M1 120 k b) 121 k (nI p)) (by omega) (by decide)
           rw [z_up_s] at e1
           refine ⟨M2, ?_, ?_⟩
           · unfold f_X10_sheet_J62
             rw [z_ib (by omega) (by omega), if_pos rfl, nI_clamp (by omega), z_ml, l_0]; exact e1
           · have fr : ∀ x, x ≠ 65 + 2 * k → x ≠ 66 + 2 * k → x ≠ 120 → x ≠ 121 → x ≠ 122 → M2 x = M x := by
               intro x h1 h2 h3 h4 h5
               rw [e3 x h5]; simp (disch := omega) only [z_up_k]; exact o1 x h1 h2
             have r65 : M2 (65 + 2 * k) 0 = b ∧ M2 (65 + 2 * k) 1 = nI p := by
               rw [e3 _ (by omega)]; simp (disch := omega) only [z_up_k]; rw [hM1]; unfold bw_fill; rw [z_rowk _ _ _ (by omega)]; simp (disch := omega) only [z_up, if_pos, if_neg, ite_true, ite_false, and_self, and_true, true_and, and_false, false_and]
             have r66 : ∀ i, i < 24 → M2 (66 + 2 * k) i = 0 := by
               intro i hi
               rw [e3 _ (by omega)]; simp (disch := omega) only [z_up_k]; rw [hM1]; unfold bw_fill; rw [z_rows]; simp only [if_pos hi]
             refine z_Inv_oth hI (fun x hx => fr x (by omega) (by omega) (by omega) (by omega) (by omega)) (fun x _ => by rw [fr 0 (by omega) (by omega) (by omega) (by omega) (by omega)]) (fun x _ _ => by rw [fr 93 (by omega) (by omega) (by omega) (by omega) (by omega)]) (z_Tap_fr (by rw [fr _ (by omega) (by omega) (by omega) (by omega) (by omega)]) (by rw [fr _ (by omega) (by omega) (by omega) (by omega) (by omega)]) (fr _ (by omega) (by omega) (by omega) (by omega) (by omega)) (fr _ (by omega) (by omega) (by omega) (by omega) (by omega)) tap) ?_ (z_Slt_fr (fun x h1 h2 => fr x (by omega) (by omega) (by omega) (by omega) (by omega)) (fr _ (by omega) (by omega) (by omega) (by omega) (by omega)) (fr _ (by omega) (by omega) (by omega) (by omega) (by omega)) (fr _ (by omega) (by omega) (by omega) (by omega) (by omega)) (fr _ (by omega) (by omega) (by omega) (by omega) (by omega)) slt) (z_Wai_fr (by rw [fr _ (by omega) (by omega) (by omega) (by omega) (by omega)]) (by rw [fr _ (by omega) (by omega) (by omega) (by omega) (by omega)]) (fr _ (by omega) (by omega) (by omega) (by omega) (by omega)) (fr _ (by omega) (by omega) (by omega) (by omega) (by omega)) wai)
             intro k' hk'
             by_cases g : k' = k
             · subst g
               refine ⟨?_, ?_, ⟨p, hp, r65.2, ?_⟩, ?_⟩
               · rw [r65.1, e3 120 (by omega)]; simp (disch := omega) only [z_up, if_pos, if_neg, ite_true, ite_false, and_self, and_true, true_and, and_false, false_and]
               · rw [e3 120 (by omega)]; simp (disch := omega) only [z_up, if_pos, if_neg, ite_true, ite_false, and_self, and_true, true_and, and_false, false_and]; exact ob
               · rw [e3 121 (by omega)]; simp (disch := omega) only [z_up, if_pos, if_neg, ite_true, ite_false, and_self, and_true, true_and, and_false, false_and]
               · intro i hi
                 rw [r66 i hi, e2, if_pos (by omega)]
             · refine z_Sht1_fr (fr _ (by omega) (by omega) (by omega) (by omega) (by omega)) (fr _ (by omega) (by omega) (by omega) (by omega) (by omega)) ?_ ?_ ?_ (sht k' hk')
               · rw [e3 120 (by omega)]; simp (disch := omega) only [z_up, if_pos, if_neg, ite_true, ite_false, and_self, and_true, true_and, and_false, false_and]; rw [o1 _ (by omega) (by omega)]
               · rw [e3 121 (by omega)]; simp (disch := omega) only [z_up, if_pos, if_neg, ite_true, ite_false, and_self, and_true, true_and, and_false, false_and]; rw [o1 _ (by omega) (by omega)]
               · intro i hi
                 rw [e2, if_neg (by omega)]; simp (disch := omega) only [z_up_k]; rw [o1 _ (by omega) (by omega)]
        exact ⟨M1, mm.2.choose, mm.1, mm.2.choose_spec⟩
      rcases ob with rfl | ob
      · obtain ⟨M1, M2, x1, x3, x4⟩ := main 0 (by omega)
        refine ⟨nI 0, M1, M2, ?_, ?_, x4⟩
        · unfold f_X9_sheet f_X9_isSheet
          rw [g, if_neg (by decide), o, if_neg (by decide), if_pos rfl]; exact x1
        · unfold f_X10_sheet f_X10_isSheet f_X10_sheet_J29 f_X10_sheet_J41
          rw [z_in, z_in, g, if_neg (by decide), o, if_neg (by decide), if_pos (by decide), if_pos (by decide), z_ib (by omega) (by omega), if_pos rfl, nI_clamp (by omega), z_ml, if_neg (show ¬ (0 : Int32) ≤ -1 by decide)]
          exact x3
      · have nb : ¬ b = -1 := by rcases ob with rfl | rfl <;> decide
        have nb2 : ¬ b < 0 := by rcases ob with rfl | rfl <;> decide
        have nb3 : 0 ≤ b := by rcases ob with rfl | rfl <;> decide
        by_cases h24 : c ≤ 24
        · by_cases h0 : 0 ≤ c
          · obtain ⟨p, hp, rfl⟩ := nI_of (Int32.not_lt.mpr h0)
            rw [l_24, nI_leI hp (by omega)] at h24
            obtain ⟨M1, M2, x1, x3, x4⟩ := main p h24
            refine ⟨nI p, M1, M2, ?_, ?_, x4⟩
            · unfold f_X9_sheet f_X9_isSheet
              rw [g, if_neg (by decide), o, if_neg (by decide), if_neg nb]; exact x1
            · unfold f_X10_sheet f_X10_isSheet f_X10_sheet_J29 f_X10_sheet_J41
              rw [z_in, z_in, g, if_neg (by decide), o, if_neg (by decide), if_neg nb2, l_24, if_pos (nI_le (by omega) (by omega)), if_neg nb2, if_pos h0, if_pos nb3, z_ib (by omega) (by omega), if_pos rfl, nI_clamp (by omega), z_ml]
              exact x3
          · refine bad (-1000000014) ?_ ?_
            · unfold f_X9_sheet f_X9_isSheet f_X9_sheet_J29
              rw [g, if_neg (by decide), o, if_neg (by decide), if_neg nb, if_pos h24, if_neg h0]
            · unfold f_X10_sheet f_X10_isSheet f_X10_sheet_J29
              rw [z_in, z_in, g, if_neg (by decide), o, if_neg (by decide), if_neg nb2, if_pos h24, if_neg nb2, if_neg h0]
        · refine bad (-1000000001) ?_ ?_
          · unfold f_X9_sheet f_X9_isSheet f_X9_sheet_J29
            rw [g, if_neg (by decide), o, if_neg (by decide), if_neg nb, if_neg h24]
          · unfold f_X10_sheet f_X10_isSheet f_X10_sheet_J29
            rw [z_in, z_in, g, if_neg (by decide), o, if_neg (by decide), if_neg nb2, if_neg h24]
theorem z_cell {n : Nat} {M : Mem} (hI : Inv n M) {k j : Nat} (hk : k < 4) (hj : j < 24) (x : Int32) : Inv (n + 1) (bw_up (bw_up M (66 + 2 * k) j x) 122 (24 * k + j) x) := by
  have hI' := hI
  obtain ⟨-, -, tap, -, sht, slt, wai, -⟩ := hI'
  obtain ⟨M2, hM2⟩ : ∃ M2, M2 = bw_up (bw_up M (66 + 2 * k) j x) 122 (24 * k + j) x := ⟨_, rfl⟩
  have fr : ∀ x, x ≠ 66 + 2 * k → x ≠ 122 → M2 x = M x := by
    intro x h2 h5
    rw [hM2]; simp (disch := omega) only [z_up_k]
  rw [← hM2]
  refine z_Inv_oth hI (fun x hx => fr x (by omega) (by omega)) (fun x _ => by rw [fr 0 (by omega) (by omega)]) (fun x _ _ => by rw [fr 93 (by omega) (by omega)]) (z_Tap_fr (by rw [fr _ (by omega) (by omega)]) (by rw [fr _ (by omega) (by omega)]) (fr _ (by omega) (by omega)) (fr _ (by omega) (by omega)) tap) ?_ (z_Slt_fr (fun x h1 h2 => fr x (by omega) (by omega)) (fr _ (by omega) (by omega)) (fr _ (by omega) (by omega)) (fr _ (by omega) (by omega)) (fr _ (by omega) (by omega)) slt) (z_Wai_fr (by rw [fr _ (by omega) (by omega)]) (by rw [fr _ (by omega) (by omega)]) (fr _ (by omega) (by omega)) (fr _ (by omega) (by omega)) wai)
  intro k' hk'
  obtain ⟨t1, t2, t3, t4⟩ := sht k' hk'
  by_cases g : k' = k
  · subst g
    refine ⟨?_, ?_, ?_, ?_⟩
    · rw [fr _ (by omega) (by omega), fr _ (by omega) (by omega)]; exact t1
    · rw [fr _ (by omega) (by omega)]; exact t2
    · rw [fr _ (by omega) (by omega), fr _ (by omega) (by omega)]; exact t3
    · intro i hi
      rw [hM2]
      by_cases e : i = j
      · subst e; simp (disch := omega) only [z_up, if_pos, if_neg, ite_true, ite_false, and_self, and_true, true_and, and_false, false_and]
      · simp (disch := omega) only [z_up, if_pos, if_neg, ite_true, ite_false, and_self, and_true, true_and, and_false, false_and]; exact t4 i hi
  · refine z_Sht1_fr (fr _ (by omega) (by omega)) (fr _ (by omega) (by omega)) (by rw [fr _ (by omega) (by omega)]) (by rw [fr _ (by omega) (by omega)]) ?_ (sht k' hk')
    intro i hi
    rw [hM2]; simp (disch := omega) only [z_up, if_pos, if_neg, ite_true, ite_false, and_self, and_true, true_and, and_false, false_and]
theorem op_mark : Op_mark Inv := by
  intro n M a b c hn hI
  have hI' := hI
  obtain ⟨-, -, -, -, sht, -⟩ := hI'
  have bad : ∀ r, f_X9_mark M a b c = some (r, M) → f_X10_mark M a b c = some (r, M) → ∃ (r : Int32) (M1 M2 : Mem), (f_X9_mark M a b c = some (r, M1)) ∧ (f_X10_mark M1 a b c = some (r, M2)) ∧ Inv (n + 1) M2 :=
    fun r h1 h2 => ⟨r, M, M, h1, h2, z_nochange hI⟩
  rcases z_wi a 0 3 (by omega) (by omega) with g | ⟨g, k, -, hk, rfl⟩
  · rw [← l_0, ← l_3] at g
    refine bad (-1000000001) ?_ ?_
    · unfold f_X9_mark f_X9_isSheet; rw [if_pos g]
    · unfold f_X10_mark f_X10_isSheet; rw [z_in, if_pos g]
  · rw [← l_0, ← l_3] at g
    obtain ⟨t1, t2, ⟨p, hp, t3, t3'⟩, t4⟩ := sht k (by omega)
    have ib : bw_ib (nI k) 4 = true := z_ib (by omega) (by omega)
    have ic : (nI k).toNatClampNeg = k := nI_clamp (by omega)
    have hp1 := z_hp1 t3 hp b
    rcases t2 with s1 | s2
    · refine bad (-1000000011) ?_ ?_
      · unfold f_X9_mark f_X9_isSheet; rw [g, if_neg (by decide), ib, if_pos rfl, ic, t1, if_pos s1]
      · unfold f_X10_mark f_X10_isSheet; rw [z_in, g, if_neg (by decide), ib, if_pos rfl, ic, s1, if_neg (by decide)]
    · have n1 : ¬ M 120 k = -1 := by rcases s2 with e | e <;> (rw [e]; decide)
      have n2 : 0 ≤ M 120 k := by rcases s2 with e | e <;> (rw [e]; decide)
      rcases z_wi1 b p (by omega) with o | ⟨o, j, hj, rfl⟩
      · refine bad (-1000000013) ?_ ?_
        · unfold f_X9_mark f_X9_isSheet; rw [g, if_neg (by decide), ib, if_pos rfl, ic, t1, if_neg n1, hp1, if_pos o]
        · unfold f_X10_mark f_X10_isSheet; rw [z_in, g, if_neg (by decide), ib, if_pos rfl, ic, if_pos n2, z_in, t3', if_pos o]
      · have ib2 : bw_ib (nI j) 24 = true := z_ib (by omega) (by omega)
        have ic2 : (nI j).toNatClampNeg = j := nI_clamp (by omega)
        have ib3 : bw_ib (24 * nI k + nI j) 96 = true := by rw [l_24, pk_mul, nI_add]; exact z_ib (by omega) (by omega)
        have ic3 : (24 * nI k + nI j).toNatClampNeg = 24 * k + j := by rw [l_24, pk_mul, nI_add]; exact nI_clamp (by omega)
        have up : ∀ x b, b ≠ 66 + 2 * k → bw_up M (66 + 2 * k) j x b = M b := fun x b hb => z_up_k _ _ _ _ hb
        have e66 : 65 + 2 * k + 1 = 66 + 2 * k := by omega
        rcases s2 with s2 | s2
        · by_cases nn : c = -1000000005
          · refine bad (-1000000012) ?_ ?_
            · unfold f_X9_mark f_X9_isSheet; rw [g, if_neg (by decide), ib, if_pos rfl, ic, t1, if_neg n1, hp1, o, if_neg (by decide), s2, if_pos rfl, if_pos nn]
            · unfold f_X10_mark f_X10_isSheet; rw [z_in, g, if_neg (by decide), ib, if_pos rfl, ic, if_pos n2, z_in, t3', o, if_neg (by decide), s2, if_pos rfl, if_pos nn]
          · refine ⟨1, bw_up M (66 + 2 * k) j c.toInt16.toInt32, _, ?_, ?_, z_cell (k := k) (j := j) hI (by omega) (by omega) c.toInt16.toInt32⟩
            · unfold f_X9_mark f_X9_isSheet f_X9_mark_J62; rw [g, if_neg (by decide), ib, if_pos rfl, ic, t1, if_neg n1, hp1, o, if_neg (by decide), s2, if_pos rfl, if_neg nn, if_neg (by decide), if_pos rfl, ib2, if_pos rfl, ic2, z_ml, e66]
            · unfold f_X10_mark f_X10_isSheet f_X10_mark_J61 f_X10_mark_J93; rw [z_in, g, if_neg (by decide), ib, if_pos rfl, ic, up _ 120 (by omega), up _ 121 (by omega), if_pos n2, z_in, t3', o, if_neg (by decide), s2, if_pos rfl, if_neg nn, if_pos rfl, if_neg (by decide), if_pos rfl, if_pos rfl, ib3, if_pos rfl, ic3, z_ml]
        · have fin : f_X9_mark_J62 M (65 + 2 * k) (nI j) c = some (1, bw_up M (66 + 2 * k) j c) → (∀ M1 : Mem, M1 120 = M 120 → f_X10_mark_J61 M1 (nI k) (nI j) c = some (1, bw_up M1 122 (24 * k + j) c)) → ∃ (r : Int32) (M1 M2 : Mem), (f_X9_mark M (nI k) (nI j) c = some (r, M1)) ∧ (f_X10_mark M1 (nI k) (nI j) c = some (r, M2)) ∧ Inv (n + 1) M2 := by
            intro h1 h2
            refine ⟨1, bw_up M (66 + 2 * k) j c, _, ?_, ?_, z_cell (k := k) (j := j) hI (by omega) (by omega) c⟩
            · unfold f_X9_mark f_X9_isSheet; rw [g, if_neg (by decide), ib, if_pos rfl, ic, t1, if_neg n1, hp1, o, if_neg (by decide), s2, if_neg (by decide)]; exact h1
            · unfold f_X10_mark f_X10_isSheet; rw [z_in, g, if_neg (by decide), ib, if_pos rfl, ic, up _ 120 (by omega), up _ 121 (by omega), if_pos n2, z_in, t3', o, if_neg (by decide), s2, if_neg (by decide)]; exact h2 _ (up _ 120 (by omega))
          by_cases nn : c = -1000000005
          · refine fin ?_ ?_
            · unfold f_X9_mark_J62
              rw [t1, s2, if_pos rfl, if_pos nn, if_neg (by decide), ib2, if_pos rfl, ic2, z_ml, e66]
            · intro M1 h120
              unfold f_X10_mark_J61 f_X10_mark_J93
              rw [ib, if_pos rfl, ic, h120, s2, if_pos rfl, if_pos nn, if_pos rfl, if_neg (by decide), ib3, if_pos rfl, ic3, z_ml]
          · by_cases ww : f_X9_isWithin c (-99999) 99999 = 0
            · refine bad (-1000000001) ?_ ?_
              · unfold f_X9_mark f_X9_isSheet f_X9_mark_J62; rw [g, if_neg (by decide), ib, if_pos rfl, ic, t1, if_neg n1, hp1, o, if_neg (by decide), s2, if_neg (by decide), if_pos rfl, if_neg nn, if_pos ww]
              · unfold f_X10_mark f_X10_isSheet f_X10_mark_J61; rw [z_in, g, if_neg (by decide), ib, if_pos rfl, ic, if_pos n2, z_in, t3', o, if_neg (by decide), s2, if_neg (by decide), if_pos rfl, if_pos rfl, if_neg nn, z_in, if_pos ww]
            · refine fin ?_ ?_
              · unfold f_X9_mark_J62
                rw [t1, s2, if_pos rfl, if_neg nn, if_neg ww, if_neg (by decide), ib2, if_pos rfl, ic2, z_ml, e66]
              · intro M1 h120
                unfold f_X10_mark_J61 f_X10_mark_J93
                rw [ib, if_pos rfl, ic, h120, s2, if_pos rfl, if_neg nn, z_in, if_neg ww, if_pos rfl, if_neg (by decide), ib3, if_pos rfl, ic3, z_ml]
