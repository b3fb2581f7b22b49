/-! level 2: line -/
/-- the price of a line: the model's part -/
theorem z_line4 {n : Nat} {M M1 : Mem} {s : Nat → Nat} {u : Nat → TU} (hn : n < 512) (hI : Inv n M) (hS : z_Stk M 25 94 s u) {T : (Nat → Option Nat) × (Nat → Nat)} (hT : T = z_out (s 4) (s 1) (z_sH s) (z_sT s) (z_sD s) (z_sf (z_sA s) (s 7)) (z_P (z_lw 0 u (s 6)) (s 2)) (s 4)) {Sl : List Nat} (hSl : Sl = z_st T.2 (s 4) (s 4 + 1) 0) (hm : ∀ M1 : Mem, z_Cf M M1 → ∃ q0 M2, q0 ≤ n + 1 ∧ f_X10_settles M1 = some M2 ∧ z_Mp (s 4) (s 1) (s 2) (s 7) (z_sH s) (z_sT s) (z_sD s) (z_sA s) (z_lw 0 u (s 6)) q0 M2 ∧ z_Mf M1 M2 ∧ M2 93 16 = z_oI (T.1 0) ∧ (T.1 0 ≠ none → M2 93 17 = nI Sl.length ∧ (∀ k, k ≤ Sl.length → M2 105 k = nI (Sl.getD k (s 4))) ∧ ∀ k, k < Sl.length → ∀ b, Sl.getD k (s 4) ≤ b → b < Sl.getD (k + 1) (s 4) → M2 106 b = nI k) ∧ (T.1 0 = none → M2 93 17 = 0)) (nn : ¬ T.1 0 = none) {k : Nat} (gk : k < Sl.length) (e3 : z_Pl (s 4) (s 1) (s 2) (s 7) (z_sH s) (z_sT s) (z_sD s) (z_sA s) (z_lw 0 u (s 6)) M1) (e4 : z_Cf M M1) (m11 : M1 11 = M 11) (C : f_X9_line M (nI k) (nI 4) = some (nI (z_P (z_lw 0 u (s 6)) (s 2) (z_sf (z_sA s) (s 7) (z_tl (z_sH s) (Sl.getD k (s 4)) (Sl.getD (k + 1) (s 4) - Sl.getD k (s 4)))) (Sl.getD (k + 1) (s 4) - Sl.getD k (s 4))), M1)) : ∃ (r : Int32) (M1 M2 : Mem), (f_X9_line M (nI k) (nI 4) = some (r, M1)) ∧ (f_X10_line M1 (nI k) (nI 4) = some (r, M2)) ∧ Inv (n + 1) M2 := by
  have h3 := (z_32L hI).2.2.2
  have hfu : 100 < bw_fu := by decide
  have hW := hS.1
  have w1 : s 4 ≤ 24 := hW.1.1
  obtain ⟨q0, M2, f0, f1, f2, f3, f4, f5, f6⟩ := hm M1 e4
  obtain ⟨hl, hset⟩ := z_LnI hT hSl nn
  obtain ⟨f5a, f5b, f5c⟩ := f5 nn
  have sl := hl.1
  obtain ⟨q, hq0⟩ : ∃ q, T.1 0 = some q := by
    cases e : T.1 0 with
    | none => exact absurd e nn
    | some q => exact ⟨q, rfl⟩
  have bd := z_BdS hW
  have qb : q ≤ 9999 * (s 4 - 0) := z_outB (s 4) (s 1) (z_sH s) (z_sT s) (z_sD s) (z_sf (z_sA s) (s 7)) (z_P (z_lw 0 u (s 6)) (s 2)) (fun a b ha => z_P_le bd.2.2.1 ha) (fun a ha => z_sf_le (fun k hk => (bd.2.2.2.2.2 k hk).2) ha) (fun j hj => (bd.2.2.2.2.1 j hj).2.1) (s 4) (by omega) 0 q (by rw [← hT]; exact hq0)
  obtain ⟨-, l2, l3, l4⟩ := hl.2.2 k gk
  have bd5 := bd.2.2.2.2.1
  have f2' := f2
  obtain ⟨-, -, -, -, r5, -⟩ := f2
  have n105 := f5b (k + 1) (by omega)
  have n105k := f5b k (by omega)
  have mTa : f_X10_tallOf M2 (nI k) = some (nI (z_tl (z_sH s) (Sl.getD k (s 4)) (Sl.getD (k + 1) (s 4) - Sl.getD k (s 4)))) := by
    unfold f_X10_tallOf
    rw [z_ib (by omega) (by omega), if_pos rfl, nI_clamp (by omega), n105k]
    have q := z_mTa (M := M2) (k := k) (h := z_sH s) (f := (Sl.getD k (s 4))) (n := (Sl.getD (k + 1) (s 4) - Sl.getD k (s 4))) (by omega) (by omega) (by rw [n105]; congr 1; omega) (fun j hj => (r5 j (by omega)).1) (fun j hj => (bd5 j (by omega)).2.1) (Sl.getD (k + 1) (s 4) - Sl.getD k (s 4)) 0 bw_fu (by omega) (by omega)
    rw [show z_tl (z_sH s) (Sl.getD k (s 4)) 0 = 0 from rfl, Nat.add_zero, ← l_0] at q
    exact q
  have hs := hset k gk
  have t1 := z_tl1 (h := z_sH s) (i := Sl.getD k (s 4)) (m := s 4) (fun j hj => (bd5 j hj).1) (Sl.getD (k + 1) (s 4) - Sl.getD k (s 4)) (by omega) (by omega)
  have t9 := z_tl_le (h := z_sH s) (i := Sl.getD k (s 4)) (m := s 4) (fun j hj => (bd5 j hj).2.1) (Sl.getD (k + 1) (s 4) - Sl.getD k (s 4)) (by omega)
  have mS := z_mSet bd f2' t1 t9
  have s9 := z_sf_le (A := z_sA s) (c := s 7) (fun k hk => (bd.2.2.2.2.2 k hk).2) t9
  rw [show z_e0 (z_sf (z_sA s) (s 7) (z_tl (z_sH s) (Sl.getD k (s 4)) (Sl.getD (k + 1) (s 4) - Sl.getD k (s 4)))) = nI (z_sf (z_sA s) (s 7) (z_tl (z_sH s) (Sl.getD k (s 4)) (Sl.getD (k + 1) (s 4) - Sl.getD k (s 4)))) by unfold z_e0; rw [if_neg (by omega)]] at mS
  obtain ⟨M3, g1, g2, g3, g4, g5⟩ := z_mPr (b := Sl.getD (k + 1) (s 4) - Sl.getD k (s 4)) bd f2' s9 (by omega)
  refine ⟨_, M1, M3, C, ?_, z_fin hI e4 (z_PlLok e3 e4) (by rw [m11]; exact h3) (z_Mf_t f3 g3) (z_AskMp f0 g2)⟩
  unfold f_X10_line
  rw [if_neg (nI_pos (by omega)), z_in, if_neg (by decide), f1, Option.bind_some, f4, hq0, if_neg (show ¬ z_oI (some q) < 0 from nI_pos (by omega)), f5a, if_pos (nI_lt gk (by omega)), nI_1, z_ib (by omega) (by omega), if_pos rfl, z_ib (by omega) (by omega), if_pos rfl, nI_clamp (by omega), nI_clamp (by omega), n105, n105k, pk_sub (by omega), z_ml, if_neg (by decide), if_neg (by decide), if_neg (by decide), if_neg (by decide), mTa, Option.bind_some, mS, Option.bind_some, g1]
  rfl
