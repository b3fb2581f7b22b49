/-! level 2: few -/
def z_fR (B : Option Nat × (Nat → Nat)) (v2 : Int32) : Int32 := match B.1 with
  | none => -1000000005
  | some q => if 0 ≤ v2 then nI (B.2 v2.toNatClampNeg) else nI q
theorem z_fEm {M : Mem} {B : Option Nat × (Nat → Nat)} {v2 : Int32} {k : Nat} (hk : k ≤ 3) (hv : v2 = -1 ∨ ∃ j, j < k ∧ v2 = nI j) (h24 : M 93 24 = z_oI B.1) (hB : ∀ q, B.1 = some q → q < 2 ^ 31 ∧ ∀ j, j < k → M 109 j = nI (B.2 j)) : (if 0 ≤ (M 93 24) then (if 0 ≤ v2 then if bw_ib v2 3 = true then some (M 109 v2.toNatClampNeg, M) else none else some (M 93 24, M)) else some ((-1000000005 : Int32), M)) = some (z_fR B v2, M) := by
  rw [h24]
  unfold z_fR
  cases hq : B.1 with
  | none => rw [if_neg (show ¬ 0 ≤ z_oI none by decide)]
  | some q =>
    obtain ⟨qb, q2⟩ := hB q hq
    rw [if_pos (show 0 ≤ z_oI (some q) from nI_pos' qb)]
    dsimp only
    rcases hv with rfl | ⟨j, hj, rfl⟩
    · rw [if_neg (by decide), if_neg (by decide)]; rfl
    · rw [if_pos (nI_pos' (by omega)), if_pos (nI_pos' (by omega)), z_ib (by omega) (by omega), if_pos rfl, nI_clamp (by omega), q2 j hj]
theorem z_fEc {M : Mem} {B : Option Nat × (Nat → Nat)} {v2 : Int32} {k : Nat} (hk : k ≤ 3) (hv : v2 = -1 ∨ ∃ j, j < k ∧ v2 = nI j) (hB : ∀ q, B.1 = some q → q < 2 ^ 31 ∧ ∀ j, j < k → M 23 j = nI (B.2 j)) : (if z_oN B.1 < 0 then some (z_oN B.1, M) else (if 0 ≤ v2 then if bw_ib v2 3 = true then some (M 23 v2.toNatClampNeg, M) else none else some (z_oN B.1, M))) = some (z_fR B v2, M) := by
  unfold z_fR
  cases hq : B.1 with
  | none => rw [if_pos (show z_oN none < 0 by decide)]; rfl
  | some q =>
    obtain ⟨qb, q2⟩ := hB q hq
    rw [if_neg (show ¬ z_oN (some q) < 0 from nI_pos qb)]
    dsimp only
    rcases hv with rfl | ⟨j, hj, rfl⟩
    · rw [if_neg (by decide), if_neg (by decide)]; rfl
    · rw [if_pos (nI_pos' (by omega)), if_pos (nI_pos' (by omega)), z_ib (by omega) (by omega), if_pos rfl, nI_clamp (by omega), q2 j hj]
theorem z_f34 {k : Nat} {v2 : Int32} (hk : k ≤ 3) : ∀ r i fu (M : Mem), i + r = k → r < fu → (∀ j, j < i → M 22 j = nI j) → ∃ M', f_X9_chooseFew_L34 (nI k) v2 fu (nI i) M = f_X9_chooseFew_L61 (nI k) v2 bw_fu (-1000000005 : Int32) (1 : Int32) (0 : Int32) M' ∧ (∀ j, j < k → M' 22 j = nI j) ∧ ∀ b, b ≠ 22 → M' b = M b := by
  intro r
  induction r with
  | zero =>
    intro i fu M h1 h2 h3
    obtain ⟨fu, rfl⟩ : ∃ f, fu = f + 1 := ⟨fu - 1, by omega⟩
    refine ⟨M, ?_, fun j hj => h3 j (by omega), fun _ _ => rfl⟩
    rw [f_X9_chooseFew_L34, if_pos (nI_le (by omega) (by omega))]
  | succ r ih =>
    intro i fu M h1 h2 h3
    obtain ⟨fu, rfl⟩ : ∃ f, fu = f + 1 := ⟨fu - 1, by omega⟩
    obtain ⟨M', e1, e2, e3⟩ := ih (i + 1) fu (bw_up M 22 i (nI i)) (by omega) (by omega) (by
      intro j hj
      by_cases g : j = i
      · subst g; rw [z_up_s]
      · rw [z_up_i _ _ _ _ g]; exact h3 j (by omega))
    refine ⟨M', ?_, e2, fun b hb => by rw [e3 b hb, z_up_k _ _ _ _ hb]⟩
    rw [f_X9_chooseFew_L34, if_neg (nI_ge (by omega) (by omega)), z_ib (by omega) (by omega), if_pos rfl, nI_clamp (by omega), z_ml, nI_1]
    exact e1
theorem z_fArg {k : Nat} {v : Int32} (hk1 : 1 ≤ k) (hk : k ≤ 3) : (v < -1 ∧ f_X9_isWithin v (-1) (nI k - 1) = 0) ∨ (¬ v < -1 ∧ ¬ v < nI k ∧ f_X9_isWithin v (-1) (nI k - 1) = 0) ∨ (¬ v < -1 ∧ v < nI k ∧ f_X9_isWithin v (-1) (nI k - 1) = 1 ∧ (v = -1 ∨ ∃ j, j < k ∧ v = nI j)) := by
  have e1 : nI k - 1 = nI (k - 1) := by rw [l_1, pk_sub (by omega)]
  rw [e1]
  unfold f_X9_isWithin
  by_cases g1 : v < -1
  · left; exact ⟨g1, by rw [if_pos g1]⟩
  · right
    rw [if_neg g1]
    have t1 : (-1 : Int32).toInt = -1 := by decide
    have a1 := g1
    rw [Int32.lt_iff_toInt_lt, t1] at a1
    by_cases g2 : v < nI k
    · right
      have a2 := g2
      rw [Int32.lt_iff_toInt_lt, nI_toInt (by omega)] at a2
      have a3 : ¬ nI (k - 1) < v := by
        rw [Int32.lt_iff_toInt_lt, nI_toInt (by omega)]; omega
      rw [if_neg a3]
      refine ⟨g1, g2, rfl, ?_⟩
      by_cases g3 : v = -1
      · exact Or.inl g3
      · right
        have a4 : v.toInt ≠ -1 := fun h => g3 (Int32.toInt_inj.mp (h.trans t1.symm))
        refine ⟨v.toInt.toNat, by omega, ?_⟩
        apply Int32.toInt_inj.mp
        rw [nI_toInt (by omega)]; omega
    · left
      have a2 := g2
      rw [Int32.lt_iff_toInt_lt, nI_toInt (by omega)] at a2
      have a3 : nI (k - 1) < v := by
        rw [Int32.lt_iff_toInt_lt, nI_toInt (by omega)]; omega
      exact ⟨g1, g2, by rw [if_pos a3]⟩
theorem op_few : Op_few Inv := by
  intro n M a0 a1 hn hI
  have hI' := hI
  obtain ⟨⟨s, u, hS⟩, -⟩ := hI'
  have hS' := hS
  obtain ⟨hW, hM, hz, c1, c2, c3, c4, hT⟩ := hS
  obtain ⟨w1, w2, w3, w4, w5, w6, w7, w8, w9⟩ := hW.1
  obtain ⟨d1, d2, d3, d4, d5, d6, d7⟩ := c1
  have m4 : M 94 4 = nI (s 4) := hM 4 (by omega) (by omega)
  have m5 : M 94 5 = nI (s 5) := hM 5 (by omega) (by omega)
  have m6 : M 94 6 = nI (s 6) := hM 6 (by omega) (by omega)
  have m7 : M 94 7 = nI (s 7) := hM 7 (by omega) (by omega)
  have hL := z_32L hI
  have hA := hI.2.2.2.2.2.2.2.1
  have hfu : 400 < bw_fu := by decide
  rcases z_wi a0 1 3 (by omega) (by omega) with o | ⟨o, k, hk1, hk, rfl⟩
  · refine ⟨-1000000001, M, M, ?_, ?_, z_nochange hI⟩
    · unfold f_X9_few; rw [l_1, l_3, if_pos o]
    · unfold f_X10_few; rw [z_in, l_1, l_3, if_pos o]
  · have o' : f_X9_isWithin (nI k) 1 3 = 1 := o
    rcases z_fArg (v := a1) hk1 hk with ⟨v1, v2⟩ | ⟨v1, v2, v3⟩ | ⟨v1, v2, v3, v4⟩
    · refine ⟨-1000000001, M, M, ?_, ?_, z_nochange hI⟩
      · unfold f_X9_few; rw [o', if_neg (by decide), if_pos v1]
      · unfold f_X10_few; rw [z_in, z_in, o', if_neg (by decide), if_pos v2]
    · refine ⟨-1000000001, M, M, ?_, ?_, z_nochange hI⟩
      · unfold f_X9_few; rw [o', if_neg (by decide), if_neg v1, if_neg v2]
      · unfold f_X10_few; rw [z_in, z_in, o', if_neg (by decide), if_pos v3]
    · obtain ⟨L, hLL⟩ : ∃ L, L = z_ul (z_has s (s 4)) 99 1 := ⟨_, rfl⟩
      obtain ⟨u1, Mu, u2, u3, u4⟩ := z_ulC hS' hLL
      obtain ⟨N, hN⟩ : ∃ N, N = L.length - 1 := ⟨_, rfl⟩
      have lm : ∀ i, i < L.length → 1 ≤ L.getD i 0 ∧ L.getD i 0 ≤ 99 := by
        intro i hi
        have := z_ul_mem (p := z_has s (s 4)) 99 1 i (by rw [← hLL]; exact hi)
        rw [← hLL] at this
        omega
      have hbd0 := z_BdS hW
      have hbd : L.length ≠ 0 → ∀ p : Nat × Nat, p.1 ≤ N → p.2 ≤ N → z_Bd (s 4) (s 1) (s 2) k (z_sH s) (z_sT s) (z_sD s) (z_fA L k N p) := by
        intro hl p g1 g2
        refine ⟨hbd0.1, hbd0.2.1, hbd0.2.2.1, by omega, hbd0.2.2.2.2.1, ?_⟩
        intro i hi
        unfold z_fA
        split
        · exact lm N (by omega)
        · split
          · exact lm _ (by omega)
          · exact lm _ (by omega)
      obtain ⟨B0, hB0⟩ : ∃ B0 : Option Nat × (Nat → Nat), B0 = (none, fun _ => 0) := ⟨_, rfl⟩
      have B0n : B0.1 = none := by rw [hB0]
      obtain ⟨B, hB⟩ : ∃ B, B = if L.length = 0 then B0 else z_fB k N (z_ft (s 4) (s 1) (s 2) (z_sH s) (z_sT s) (z_sD s) (z_lw 0 u (s 6)) k N L) B0 := ⟨_, rfl⟩
      have cls : ∃ M1, f_X9_chooseFew M (nI k) = some (z_oN B.1, M1) ∧ z_Cf M M1 ∧ z_Lok M (M1 1 7) ∧ M1 11 = M 11 ∧ (∀ q, B.1 = some q → q < 2 ^ 31 ∧ ∀ j, j < k → M1 23 j = nI (B.2 j)) := by
        have cfu : z_Cf M Mu := z_Cf_b (fun b hb => u4 b (by omega))
        unfold f_X9_chooseFew
        rw [u2, Option.bind_some]
        dsimp only
        by_cases g : k ≤ L.length
        · have lne : L.length ≠ 0 := by omega
          rw [if_pos (nI_le g (by omega))]
          have hlu : z_Lws n Mu := z_Lws_fr (by rw [u4 0 (by omega)]) (u4 32 (by omega)) (u4 52 (by omega)) (by rw [u4 1 (by omega)]) (by rw [u4 11 (by omega)]) hL
          have stu : z_Stk Mu 25 94 s u := z_Stk_fr (cfu.1 94 (by omega)) (fun k g1 g2 => cfu.1 k (by omega)) cfu.2 hS'
          obtain ⟨Ml, e1, e2, e3, e4, e5, e6⟩ := z_load (n := n) stu (by omega) (by omega) hlu (fun t ht => (hlu.2.1 t ht).1)
          obtain ⟨Mp, f1, f2, f3⟩ := z_f34 (k := k) (v2 := nI L.length) hk k 0 bw_fu Ml (by omega) (by omega) (fun j hj => by omega)
          have plp := z_Pl_o e2 (fun b g1 g2 => f3 b g1)
          have cfp : z_Cf M Mp := z_Cf_t cfu (z_Cf_t e3 (z_Cf_b (fun b hb => f3 b (by omega))))
          obtain ⟨R, r1, r2⟩ := z_rnA (n := N) (st := z_ft (s 4) (s 1) (s 2) (z_sH s) (z_sT s) (z_sD s) (z_lw 0 u (s 6)) k N L) (B := B0) hk1 hk (by omega) (by omega)
          rw [if_neg lne] at hB
          rw [← hB] at r2
          obtain ⟨M1, c', A', g1, g2, g3, g4, g5⟩ := z_fCl (L := L) (M0 := Mp) hk1 hk (show N < 24 by omega) (by omega) (hbd lne) (fun i hi => by rw [f3 21 (by omega), e6 21 (by omega) (by omega)]; exact u3 i (by omega)) R 0 bw_fu (some (0, if k = 3 then 1 else 0)) B0 B Mp (s 7) (z_sA s) (by omega) (by omega) r2 plp rfl (by
            intro p hp
            injection hp with hp
            subst hp
            refine ⟨fun g => f2 0 (by omega), fun g => ?_, by dsimp only; omega, ?_⟩
            · rw [f2 1 (by omega)]; dsimp only; rw [if_pos (by omega)]
            · dsimp only; split <;> omega) (fun q hq => by rw [B0n] at hq; simp at hq)
          have cf1 := z_Cf_t cfp g3
          refine ⟨M1, ?_, cf1, z_PlLok g2 cf1, ?_, g4⟩
          · rw [e1, Option.bind_some, l_0, f1]
            rw [show z_oN B0.1 = -1000000005 by rw [B0n]; rfl, show nI 0 = 0 from rfl, show N + 1 = L.length by omega] at g1
            exact g1
          · rw [g5 11 (by omega) (by omega), f3 11 (by omega), e6 11 (by omega) (by omega), u4 11 (by omega)]
        · rw [if_neg (nI_ge (by omega) (by omega))]
          have bn : B.1 = none := by
            by_cases l0 : L.length = 0
            · rw [hB, if_pos l0, B0n]
            · rw [hB, if_neg l0, z_fB0 hk (by omega) (by omega), B0n]
          refine ⟨Mu, by rw [bn]; rfl, cfu, ?_, u4 11 (by omega), fun q hq => by rw [bn] at hq; simp at hq⟩
          rw [u4 1 (by omega)]; exact hL.2.2.1
      obtain ⟨M1, c1', c2', c3', c4', c5'⟩ := cls
      have st : z_Stk M1 25 94 s u := z_Stk_fr (c2'.1 94 (by omega)) (fun k g1 g2 => c2'.1 k (by omega)) c2'.2 hS'
      obtain ⟨q, Ma, Mb, b0, b1, b2, b3, b4, b5, b6, -⟩ := z_mBeg (n := n) hn hW st.2.1 st.2.2.2.2.2.2.2 (z_Ask_fr (by rw [c2'.1 93 (by omega)]) (c2'.1 102 (by omega)) hA)
      have MRb : z_MR Mb 94 s := by intro i g1 g2; rw [b6 94 (by omega) (by omega) (by omega) (by omega) (by omega)]; exact st.2.1 i g1 g2
      obtain ⟨Mc, h1, h2, h3, h4, h5⟩ := z_ulM hW MRb hLL
      obtain ⟨Md, hMd⟩ : ∃ Md, Md = bw_up Mc 93 24 (-1) := ⟨_, rfl⟩
      have od : ∀ b, b ≠ 93 → b ≠ 108 → Md b = Mb b := fun b g1 g2 => by rw [hMd, z_up_k _ _ _ _ g1, h5 b g1 g2]
      have od' : ∀ x, x ≠ 22 → x ≠ 24 → Md 93 x = Mb 93 x := fun x g1 g2 => by rw [hMd, z_up_i _ _ _ _ g2, h3 x g1]
      have mpd : z_Mp (s 4) (s 1) (s 2) (s 7) (z_sH s) (z_sT s) (z_sD s) (z_sA s) (z_lw 0 u (s 6)) (q + 1) Md := z_Mp_fr (od 94 (by omega) (by omega)) ⟨od' 7 (by omega) (by omega), od' 8 (by omega) (by omega), od' 10 (by omega) (by omega), od' 13 (by omega) (by omega)⟩ (fun k g1 g2 => od k (by omega) (by omega)) b3
      have mfd : z_Mf M1 Md := z_Mf_t b4 ⟨fun b hb => od b (by omega) (by omega), od' 3 (by omega) (by omega), od' 26 (by omega) (by omega), od' 54 (by omega) (by omega)⟩
      have d22 : Md 93 22 = nI L.length := by rw [hMd, z_up_i _ _ _ _ (by omega)]; exact h2
      have d24 : Md 93 24 = -1 := by rw [hMd, z_up_s]
      have d108 : ∀ k, k < L.length → Md 108 k = nI (L.getD k 0) := by rw [hMd, z_up_k _ _ _ _ (by omega)]; exact h4
      have mm : ∃ M2, f_X10_few M1 (nI k) a1 = some (z_fR B a1, M2) ∧ z_Mf M1 M2 ∧ z_Ask (n + 1) M2 := by
        unfold f_X10_few
        rw [z_in, z_in, o', if_neg (by decide), v3, if_neg (by decide), b1, Option.bind_some, b2, Option.bind_some, h1, Option.bind_some, z_ml, ← hMd, d22]
        by_cases l0 : L.length = 0
        · have lv : nI L.length - 1 = -1 := by rw [l0]; decide
          have fin0 : f_X10_few_J63 Md (nI k) a1 (-1) = some (z_fR B a1, Md) := by
            unfold f_X10_few_J63
            obtain ⟨f, hf⟩ : ∃ f, bw_fu = f + 1 := ⟨1999, rfl⟩
            have x := z_fEm (M := Md) (B := B) hk v4 (by rw [hB, if_pos l0, B0n, d24]; rfl) (fun q hq => by rw [hB, if_pos l0, B0n] at hq; simp at hq)
            rw [hf, f_X10_few_L66, if_pos (by decide)]
            exact x
          rw [lv, if_pos (show (-1 : Int32) < 0 by decide), fin0, ite_self]
          exact ⟨Md, rfl, mfd, z_AskMp (by omega) mpd⟩
        · have lv : nI L.length - 1 = nI N := by rw [l_1, pk_sub (by omega), hN]
          rw [if_neg l0] at hB
          have fM0 : z_fM (s 4) (s 1) (s 2) (z_sH s) (z_sT s) (z_sD s) (z_lw 0 u (s 6)) (q + 1) k N L M1 B0 Md := ⟨⟨s 7, z_sA s, mpd⟩, by rw [d22]; congr 1; omega, fun i hi => d108 i (by omega), by rw [d24, B0n]; rfl, fun q hq => by rw [B0n] at hq; simp at hq, mfd⟩
          have fin : ∀ (M2 : Mem) (x : Option (Int32 × Mem)), z_fM (s 4) (s 1) (s 2) (z_sH s) (z_sT s) (z_sD s) (z_lw 0 u (s 6)) (q + 1) k N L M1 B M2 → x = (if 0 ≤ (M2 93 24) then (if 0 ≤ a1 then if bw_ib a1 3 = true then some (M2 109 a1.toNatClampNeg, M2) else none else some (M2 93 24, M2)) else some ((-1000000005 : Int32), M2)) → ∃ M2, x = some (z_fR B a1, M2) ∧ z_Mf M1 M2 ∧ z_Ask (n + 1) M2 := by
            intro M2 x hm hx
            obtain ⟨⟨c0, A0, m1⟩, m2, m3, m4', m5', m6'⟩ := hm
            rw [z_fEm hk v4 m4' m5'] at hx
            exact ⟨M2, hx, m6', z_AskMp (by omega) m1⟩
          rw [lv, if_neg (nI_pos (by omega))]
          by_cases k1 : k = 1
          · subst k1
            obtain ⟨M2, t1, t2⟩ := z_mTry (p := (0, 0)) (by omega) (by omega) (show N < 24 by omega) (hbd l0) (by dsimp only; omega) (by dsimp only; omega) fM0
            have t1' : f_X10_tries Md 1 0 0 = some M2 := t1
            have bb : B = z_ft (s 4) (s 1) (s 2) (z_sH s) (z_sT s) (z_sD s) (z_lw 0 u (s 6)) 1 N L B0 (0, 0) := by rw [hB]; unfold z_fB; rw [if_pos rfl]
            rw [← bb] at t2
            rw [if_pos (show nI 1 = 1 from rfl), t1', Option.bind_some]
            refine fin M2 _ t2 ?_
            unfold f_X10_few_J63
            obtain ⟨f, hf⟩ : ∃ f, bw_fu = f + 1 := ⟨1999, rfl⟩
            rw [hf, f_X10_few_L66, if_pos (show nI 1 ≤ 1 by decide), ite_self]
          · rw [if_neg (show ¬ nI k = 1 from z_neI (b := 1) k1 (by omega) (by omega))]
            unfold f_X10_few_J63
            obtain ⟨M2, t1, t2⟩ := z_m66 (v2 := a1) (show 2 ≤ k by omega) hk (show N < 24 by omega) (hbd l0) N 0 bw_fu B0 Md (by omega) (by omega) fM0
            have bb : B = z_o3 k N (z_ft (s 4) (s 1) (s 2) (z_sH s) (z_sT s) (z_sD s) (z_lw 0 u (s 6)) k N L) N 0 B0 := by rw [hB]; unfold z_fB; rw [if_neg k1]
            rw [← bb] at t2
            rw [show nI 0 = 0 from rfl] at t1
            refine fin M2 _ t2 ?_
            rw [t1, f_X10_few_L66, if_pos (nI_le (by omega) (by omega))]
      obtain ⟨M2, t1, t2, t3⟩ := mm
      refine ⟨z_fR B a1, M1, M2, ?_, t1, z_fin hI c2' c3' (by rw [c4']; exact hL.2.2.2) t2 t3⟩
      unfold f_X9_few
      rw [o', if_neg (by decide), if_neg v1, if_pos v2, c1', Option.bind_some]
      exact z_fEc hk v4 c5'
