/-! level 2: cases, the model -/
section
variable {m W pl c C : Nat} {h t d A : Nat → Nat} {lw : Option TU} {q0 : Nat}
theorem z_mFl {b l : Nat} (hb2 : b < 2 ^ 30) (hl : l ≤ 999) (hC : C ≤ 999) : (if (if nI b = 0 then (1 : Int32) else if bw_rem (nI b) 1000 + nI l ≤ nI C then 0 else 1) = 0 then nI b + nI l else nI b / 1000 * 1000 + 1000 + nI l) = nI (z_fl C b l) := by
  unfold z_fl
  have e1 : nI b / 1000 = nI (b / 1000) := by rw [l_1000, pk_div (by omega) (by omega) (by omega)]
  have e2 : bw_rem (nI b) 1000 = nI (b % 1000) := by rw [l_1000, z_remN (by omega) (by omega) (by omega)]
  have e3 : nI (b / 1000) * 1000 + 1000 + nI l = nI ((b / 1000 + 1) * 1000 + l) := by rw [l_1000, pk_mul, nI_add, nI_add, show b / 1000 * 1000 + 1000 + l = (b / 1000 + 1) * 1000 + l by omega]
  rw [e1, e2, e3, nI_add, nI_add]
  by_cases g : b = 0
  · rw [if_pos (show nI b = 0 from congrArg nI g), if_neg (by decide), if_pos (Or.inl g)]
  · rw [if_neg (show ¬ nI b = 0 from nI_ne0 (by omega) (by omega))]
    by_cases g2 : C < b % 1000 + l
    · rw [if_neg (show ¬ nI (b % 1000 + l) ≤ nI C from nI_ge g2 (by omega)), if_neg (by decide), if_pos (Or.inr g2)]
    · rw [if_pos (show nI (b % 1000 + l) ≤ nI C from nI_le (by omega) (by omega)), if_pos rfl, if_neg (by omega)]
theorem z_mFi (hbd : z_Bd m W pl c h t d A) (hC : C ≤ 999) {i b : Nat} (hi : i < m) (hb : b = 0 ∨ 1000 ≤ b) (hb2 : b ≤ 2000 * i) : ∀ r j fu th tl M U, z_Mp m W pl c h t d A lw q0 M → M 94 3 = nI C → j + r = m → r < fu → i ≤ j → th ≤ 99 * j → tl ≤ 99 → z_UI U → U i = some b → (∀ k, k ≤ m → M 107 k = z_oI (U k)) → ∃ M', f_X10_findCases_L56 (nI i) fu (nI th) (nI tl) (nI j) M = some M' ∧ (∀ k, k ≤ m → M' 107 k = z_oI (z_ci m W pl C h t d (z_sf A c) b r j th tl U k)) ∧ z_UI (z_ci m W pl C h t d (z_sf A c) b r j th tl U) ∧ ∀ k, k ≠ 107 → M' k = M k := by
  have hbd' := hbd
  obtain ⟨b1, b2, b3, b4, b5, b6⟩ := hbd
  intro r
  induction r with
  | zero =>
    intro j fu th tl M U hp h6 h1 h2 h3 h4 h5 hU hUi hk
    obtain ⟨fu, rfl⟩ : ∃ f, fu = f + 1 := ⟨fu - 1, by omega⟩
    refine ⟨M, ?_, hk, hU, fun _ _ => rfl⟩
    rw [f_X10_findCases_L56, hp.1, if_pos (nI_le (by omega) (by omega))]
  | succ r ih =>
    intro j fu th tl M U hp h6 h1 h2 h3 h4 h5 hU hUi hk
    obtain ⟨fu, rfl⟩ : ∃ f, fu = f + 1 := ⟨fu - 1, by omega⟩
    obtain ⟨p1, p2, p3, p4, p5, p6, p7, p8, p9⟩ := hp
    have hp' : z_Mp m W pl c h t d A lw q0 M := ⟨p1, p2, p3, p4, p5, p6, p7, p8, p9⟩
    obtain ⟨q1, q2, q3⟩ := p5 j (by omega)
    obtain ⟨r1, r2, r3, r4⟩ := b5 j (by omega)
    have mxE : (if nI (h j) ≤ nI tl then nI tl else nI (h j)) = nI (z_mx tl (h j)) := by
      unfold z_mx
      by_cases g : tl < h j
      · rw [if_pos g, if_neg (nI_ge g (by omega))]
      · rw [if_neg g, if_pos (nI_le (by omega) (by omega))]
    have mx99 : z_mx tl (h j) ≤ 99 := z_mx_le h5 r2
    have mx1 : 1 ≤ z_mx tl (h j) := by unfold z_mx; split <;> omega
    have sE := z_mSet hbd' hp' mx1 mx99
    have s99 : z_sf A c (z_mx tl (h j)) ≤ 99 := z_sf_le (fun k hk => (b6 k hk).2) mx99
    have ub := hU i b hUi
    rw [f_X10_findCases_L56, p1, if_neg (nI_ge (by omega) (by omega)), z_ib (by omega) (by omega), if_pos rfl, nI_clamp (by omega), hk i (by omega), hUi, show z_oI (some b) = nI b from rfl, if_neg (nI_pos (by omega)), z_ib (by omega) (by omega), if_pos rfl, nI_clamp (by omega), q1, q2, q3, mxE, z_ml, p2, nI_add, sE, Option.bind_some, nI_1, show ((3 : Int32).toNatClampNeg) = 3 from rfl, show ((2 : Int32).toNatClampNeg) = 2 from rfl, h6, p3, z_ci]
    by_cases gW : W < th + t j
    · rw [if_neg (nI_ge (by omega) (by omega)), if_pos gW]
      exact ⟨M, rfl, hk, hU, fun _ _ => rfl⟩
    · rw [if_pos (nI_le (by omega) (by omega)), if_neg gW]
      have rec0 := ih (j + 1) fu (th + t j) (z_mx tl (h j)) M U hp' h6 (by omega) (by omega) (by omega) (by omega) mx99 hU hUi hk
      by_cases gS : z_sf A c (z_mx tl (h j)) = 0
      · rw [gS, if_pos (show z_e0 0 < 0 by decide), if_neg (show ¬ ((m ≤ j + 1 ∨ d j = 0) ∧ 0 < 0 ∧ 0 + pl ≤ C) by omega)]
        exact rec0
      · have eS : z_e0 (z_sf A c (z_mx tl (h j))) = nI (z_sf A c (z_mx tl (h j))) := by unfold z_e0; rw [if_neg gS]
        rw [eS, if_neg (nI_pos (by omega)), nI_add]
        by_cases gC : C < z_sf A c (z_mx tl (h j)) + pl
        · rw [if_pos (nI_lt gC (by omega)), if_neg (show ¬ ((m ≤ j + 1 ∨ d j = 0) ∧ 0 < z_sf A c (z_mx tl (h j)) ∧ z_sf A c (z_mx tl (h j)) + pl ≤ C) by omega)]
          exact rec0
        · rw [if_neg (nI_nlt (by omega) (by omega))]
          have one : ∀ {α : Type} (X Y : α), (if nI (d j) = 0 then X else if nI m - 1 ≤ nI j then X else Y) = if m ≤ j + 1 ∨ d j = 0 then X else Y := by
            intro α X Y
            by_cases g1 : d j = 0
            · rw [if_pos (show nI (d j) = 0 from congrArg nI g1), if_pos (Or.inr g1)]
            · rw [if_neg (show ¬ nI (d j) = 0 from nI_ne0 (by omega) (by omega)), show nI m - 1 = nI (m - 1) from pk_sub (b := 1) (by omega)]
              by_cases g2 : m ≤ j + 1
              · rw [if_pos (nI_le (by omega) (by omega)), if_pos (Or.inl g2)]
              · rw [if_neg (nI_ge (by omega) (by omega)), if_neg (by omega)]
          rw [one]
          by_cases gE : m ≤ j + 1 ∨ d j = 0
          · obtain ⟨f1, f2⟩ := z_flB (b := b) hC (show z_sf A c (z_mx tl (h j)) + pl ≤ C by omega) hb
            rw [if_pos gE, if_pos (show (m ≤ j + 1 ∨ d j = 0) ∧ 0 < z_sf A c (z_mx tl (h j)) ∧ z_sf A c (z_mx tl (h j)) + pl ≤ C from ⟨gE, by omega, by omega⟩), z_ml, z_ml, z_ml, z_mFl (by omega) (by omega) hC, z_ib (by omega) (by omega), if_pos rfl, nI_clamp (by omega), hk (j + 1) (by omega), z_ml]
            generalize z_fl C b (z_sf A c (z_mx tl (h j)) + pl) = v at *
            have cuv : (if z_oI (U (j + 1)) < 0 then nI v else if z_oI (U (j + 1)) ≤ nI v then z_oI (U (j + 1)) else nI v) = z_oI (z_cu U (j + 1) v (j + 1)) := by
              unfold z_cu
              rw [if_pos rfl]
              cases hUj : U (j + 1) with
              | none => rw [if_pos (show z_oI none < 0 by decide)]; rfl
              | some y =>
                have yb := hU (j + 1) y hUj
                rw [if_neg (show ¬ z_oI (some y) < 0 from nI_pos (by omega))]
                dsimp only
                by_cases gy : y ≤ v
                · rw [if_pos (show z_oI (some y) ≤ nI v from nI_le gy (by omega)), if_pos gy]
                · rw [if_neg (show ¬ z_oI (some y) ≤ nI v from nI_ge (by omega) (by omega)), if_neg gy]; rfl
            rw [cuv]
            have o : ∀ k, k ≠ 107 → bw_up M 107 (j + 1) (z_oI (z_cu U (j + 1) v (j + 1))) k = M k := fun k hk => z_up_k _ _ _ _ hk
            obtain ⟨M', g1, g2, g3, g4⟩ := ih (j + 1) fu (th + t j) (z_mx tl (h j)) (bw_up M 107 (j + 1) (z_oI (z_cu U (j + 1) v (j + 1)))) (z_cu U (j + 1) v) (z_Mp_fr (o 94 (by omega)) (by rw [o 93 (by omega)]; exact ⟨rfl, rfl, rfl, rfl⟩) (fun k g1 g2 => o k (by omega)) hp') (by rw [o 94 (by omega)]; exact h6) (by omega) (by omega) (by omega) (by omega) mx99 (z_cuI hU f1 (by omega)) (by unfold z_cu; rw [if_neg (by omega)]; exact hUi) (by
              intro k hkm
              by_cases e : k = j + 1
              · rw [e, z_up_s]
              · rw [z_up_i _ _ _ _ e, hk k hkm]; unfold z_cu; rw [if_neg e])
            exact ⟨M', g1, g2, g3, fun k hk => by rw [g4 k hk, o k hk]⟩
          · rw [if_neg gE, if_neg (show ¬ ((m ≤ j + 1 ∨ d j = 0) ∧ 0 < z_sf A c (z_mx tl (h j)) ∧ z_sf A c (z_mx tl (h j)) + pl ≤ C) by omega)]
            exact rec0
theorem z_mFo (hbd : z_Bd m W pl c h t d A) (hC : C ≤ 999) : ∀ r i fu M U, z_Mp m W pl c h t d A lw q0 M → M 94 3 = nI C → i + r = m → r < fu → z_UI U → (∀ k, k ≤ m → M 107 k = z_oI (U k)) → ∃ M', f_X10_findCases_L41 fu (nI i) M = some M' ∧ M' 107 m = z_oI (z_co m W pl C h t d (z_sf A c) r i U m) ∧ ∀ k, k ≠ 107 → M' k = M k := by
  have hfu : 100 < bw_fu := by decide
  have b1 := hbd.1
  intro r
  induction r with
  | zero =>
    intro i fu M U hp h6 h1 h2 hU hk
    obtain ⟨fu, rfl⟩ : ∃ f, fu = f + 1 := ⟨fu - 1, by omega⟩
    refine ⟨M, ?_, hk m (by omega), fun _ _ => rfl⟩
    rw [f_X10_findCases_L41, hp.1, if_pos (nI_le (by omega) (by omega))]
  | succ r ih =>
    intro i fu M U hp h6 h1 h2 hU hk
    obtain ⟨fu, rfl⟩ : ∃ f, fu = f + 1 := ⟨fu - 1, by omega⟩
    rw [f_X10_findCases_L41, hp.1, if_neg (nI_ge (by omega) (by omega)), nI_1, z_co]
    cases hUi : U i with
    | none =>
      have e1 : f_X10_findCases_L56 (nI i) bw_fu 0 0 (nI i) M = some M := by
        rw [show bw_fu = 1999 + 1 from rfl, f_X10_findCases_L56, hp.1, if_neg (nI_ge (by omega) (by omega)), z_ib (by omega) (by omega), if_pos rfl, nI_clamp (by omega), hk i (by omega), hUi, if_pos (show z_oI none < 0 by decide)]
      rw [e1, Option.bind_some]
      exact ih (i + 1) fu M U hp h6 (by omega) (by omega) hU hk
    | some b =>
      have ub := hU i b hUi
      obtain ⟨M1, e1, e2, e3, e4⟩ := z_mFi (lw := lw) (q0 := q0) hbd hC (i := i) (b := b) (by omega) ub.1 ub.2 (m - i) i bw_fu 0 0 M U hp h6 (by omega) (by omega) (by omega) (by omega) (by omega) hU hUi hk
      rw [show nI 0 = 0 from rfl] at e1
      rw [e1, Option.bind_some]
      obtain ⟨M', f1, f2, f3⟩ := ih (i + 1) fu M1 _ (z_Mp_fr (e4 94 (by omega)) (by rw [e4 93 (by omega)]; exact ⟨rfl, rfl, rfl, rfl⟩) (fun k g1 g2 => e4 k (by omega)) hp) (by rw [e4 94 (by omega)]; exact h6) (by omega) (by omega) e3 e2
      exact ⟨M', f1, f2, fun k hk => by rw [f3 k hk, e4 k hk]⟩
theorem z_mF0 (hm : m ≤ 24) : ∀ r i fu M, i + r = m + 1 → r < fu → M 93 7 = nI m → (∀ k, k < i → M 107 k = if k = 0 then 0 else -1) → ∃ M', f_X10_findCases_L10 fu (nI i) M = f_X10_findCases_L41 bw_fu 0 M' ∧ (∀ k, k ≤ m → M' 107 k = if k = 0 then 0 else -1) ∧ ∀ k, k ≠ 107 → M' k = M k := by
  intro r
  induction r with
  | zero =>
    intro i fu M h1 h2 h3 h4
    obtain ⟨fu, rfl⟩ : ∃ f, fu = f + 1 := ⟨fu - 1, by omega⟩
    refine ⟨M, ?_, fun k hk => h4 k (by omega), fun _ _ => rfl⟩
    rw [f_X10_findCases_L10, h3, if_pos (nI_lt (by omega) (by omega))]
  | succ r ih =>
    intro i fu M h1 h2 h3 h4
    obtain ⟨fu, rfl⟩ : ∃ f, fu = f + 1 := ⟨fu - 1, by omega⟩
    obtain ⟨M', e1, e2, e3⟩ := ih (i + 1) fu (bw_up M 107 i (if i = 0 then 0 else -1)) (by omega) (by omega) (by rw [z_up_k _ _ _ _ (by omega)]; exact h3) (by
      intro k hk
      by_cases e : k = i
      · rw [e, z_up_s]
      · rw [z_up_i _ _ _ _ e]; exact h4 k (by omega))
    refine ⟨M', ?_, e2, fun k hk => by rw [e3 k hk, z_up_k _ _ _ _ hk]⟩
    have ei : (if nI i = 0 then (0 : Int32) else -1) = if i = 0 then 0 else -1 := by
      by_cases g : i = 0
      · rw [if_pos (show nI i = 0 from congrArg nI g), if_pos g]
      · rw [if_neg (show ¬ nI i = 0 from nI_ne0 (by omega) (by omega)), if_neg g]
    rw [f_X10_findCases_L10, h3, if_neg (nI_nlt (by omega) (by omega)), z_ib (by omega) (by omega), if_pos rfl, nI_clamp (by omega), ei, z_ml, nI_1]
    exact e1
end
def z_U0 : Nat → Option Nat := fun k => if k = 0 then some 0 else none
theorem z_U0I : z_UI z_U0 := by
  intro j x hx
  unfold z_U0 at hx
  split at hx
  · simp at hx; omega
  · simp at hx
theorem z_U0v (k : Nat) : z_oI (z_U0 k) = if k = 0 then 0 else -1 := by
  unfold z_U0
  split <;> rfl
theorem op_cases : Op_cases Inv := by
  intro n M a hn hI
  have hI' := hI
  obtain ⟨⟨s, u, hS⟩, -⟩ := hI'
  have hS' := hS
  obtain ⟨hW, hM, hz, c1, c2, c3, c4, hT⟩ := hS
  obtain ⟨w1, w2, w3, w4, w5, w6, w7, w8, w9⟩ := hW.1
  obtain ⟨d1, d2, d3, d4, d5, d6, d7⟩ := c1
  have m4 : M 94 4 = nI (s 4) := hM 4 (by omega) (by omega)
  have m5 : M 94 5 = nI (s 5) := hM 5 (by omega) (by omega)
  have m6 : M 94 6 = nI (s 6) := hM 6 (by omega) (by omega)
  have m7 : M 94 7 = nI (s 7) := hM 7 (by omega) (by omega)
  have hfu : 100 < bw_fu := by decide
  have hL := z_32L hI
  have hA := hI.2.2.2.2.2.2.2.1
  rcases z_wi a 0 1 (by omega) (by omega) with o | ⟨o, w, -, hw, rfl⟩
  · rw [← l_0, ← l_1] at o
    refine ⟨-1000000001, M, M, ?_, ?_, z_nochange hI⟩
    · unfold f_X9_cases; rw [if_pos o]
    · unfold f_X10_cases; rw [z_in, if_pos o]
  · rw [← l_0, ← l_1] at o
    have hbd := z_BdS hW
    obtain ⟨Ml, e1, e2, e3, e4, e5, e6⟩ := z_load (n := n) hS' (by omega) (by omega) hL (fun t ht => (hL.2.1 t ht).1)
    obtain ⟨Mf, hMf⟩ : ∃ Mf, Mf = bw_up (bw_fill Ml 10 25 (-1)) 10 0 0 := ⟨_, rfl⟩
    have of' : ∀ b, b ≠ 10 → Mf b = Ml b := by intro b hb; rw [hMf, z_up_k _ _ _ _ hb]; unfold bw_fill; rw [z_rowk _ _ _ hb]
    have v10 : ∀ k, k ≤ s 4 → Mf 10 k = z_oI (z_U0 k) := by
      intro k hk
      rw [z_U0v, hMf, z_up]
      by_cases g : k = 0
      · simp [g]
      · simp only [g, and_false, if_false]; unfold bw_fill; rw [z_rows]; simp only [if_pos (show k < 25 by omega)]
    have cff : z_Cf Ml Mf := z_Cf_b (fun b hb => of' b (by omega))
    have pf : z_Pl (s 4) (s 1) (s 2) (s 7) (z_sH s) (z_sT s) (z_sD s) (z_sA s) (z_lw 0 u (s 6)) Mf := z_Pl_fr cff (fun x _ => by rw [of' 1 (by omega)]) (fun k g1 g2 => of' k (by omega)) (by rw [of' 6 (by omega)]; exact e2.2.2.2.2.2.2.2) e2
    obtain ⟨M1, f1, f2, f3⟩ := z_cFo (C := s 3) hbd w9 (s 4) 0 bw_fu Mf z_U0 pf (by rw [of' 1 (by omega)]; exact e4) (by omega) (by omega) z_U0I v10
    have c1f : z_Cf M M1 := z_Cf_t e3 (z_Cf_t cff (z_Cf_b (fun b hb => f3 b (by omega))))
    have st : z_Stk M1 25 94 s u := z_Stk_fr (c1f.1 94 (by omega)) (fun k g1 g2 => c1f.1 k (by omega)) c1f.2 hS'
    obtain ⟨q, Mc, Md, q1, g1, g2, g3, g4, -⟩ := z_mBeg (n := n) hn hW st.2.1 st.2.2.2.2.2.2.2 (z_Ask_fr (by rw [c1f.1 93 (by omega)]) (c1f.1 102 (by omega)) hA)
    obtain ⟨Me, j1, j2, j3⟩ := z_mF0 (m := s 4) w1 (s 4 + 1) 0 bw_fu Md (by omega) (by omega) g3.1 (fun k hk => by omega)
    have pe : z_Mp (s 4) (s 1) (s 2) (s 7) (z_sH s) (z_sT s) (z_sD s) (z_sA s) (z_lw 0 u (s 6)) (q + 1) Me := z_Mp_fr (j3 94 (by omega)) (by rw [j3 93 (by omega)]; exact ⟨rfl, rfl, rfl, rfl⟩) (fun k g1 g2 => j3 k (by omega)) g3
    have m943 : Me 94 3 = nI (s 3) := by rw [j3 94 (by omega), g4.1 94 (by omega)]; exact st.2.1 3 (by omega) (by omega)
    obtain ⟨M2, k1, k2, k3⟩ := z_mFo (C := s 3) hbd w9 (s 4) 0 bw_fu Me z_U0 pe m943 (by omega) (by omega) z_U0I (fun k hk => by rw [j2 k hk, z_U0v])
    have m2 : z_Mf M1 M2 := z_Mf_t g4 (z_Mf_b (fun b hb => by rw [k3 b (by omega), j3 b (by omega)]))
    have p2 : z_Mp (s 4) (s 1) (s 2) (s 7) (z_sH s) (z_sT s) (z_sD s) (z_sA s) (z_lw 0 u (s 6)) (q + 1) M2 := z_Mp_fr (k3 94 (by omega)) (by rw [k3 93 (by omega)]; exact ⟨rfl, rfl, rfl, rfl⟩) (fun k g1 g2 => k3 k (by omega)) pe
    have c1 : M1 1 = Ml 1 := by rw [f3 1 (by omega), of' 1 (by omega)]
    have fi : Inv (n + 1) M2 := z_fin hI c1f (by rw [c1]; exact e5) (by rw [f3 11 (by omega), of' 11 (by omega), e6 11 (by omega) (by omega)]; exact hL.2.2.2) m2 (z_AskMp (by omega) p2)
    rw [show nI 0 = 0 from rfl] at f1 j1 k1
    generalize z_co (s 4) (s 1) (s 2) (s 3) (z_sH s) (z_sT s) (z_sD s) (z_sf (z_sA s) (s 7)) (s 4) 0 z_U0 (s 4) = V at *
    refine ⟨if 0 ≤ z_oI V then (if nI w = 0 then z_oI V / 1000 else bw_rem (z_oI V) 1000) else -1000000005, M1, M2, ?_, ?_, fi⟩
    · unfold f_X9_cases f_X2_leastFilled
      rw [o, if_neg (by decide), e1, Option.bind_some, z_ml, z_ml, show ((0 : Int32).toNatClampNeg) = 0 from rfl, ← hMf, f1, Option.bind_some]
      by_cases g : 0 ≤ z_oI V
      · rw [if_pos (show 0 ≤ (z_oI V, M1).1 from g), if_pos g]
      · rw [if_neg (show ¬ 0 ≤ (z_oI V, M1).1 from g), if_neg g]
    · unfold f_X10_cases f_X10_findCases
      rw [z_in, o, if_neg (by decide), g1, Option.bind_some, g2, Option.bind_some, j1, k1, Option.bind_some, p2.1, z_ib (by omega) (by omega), if_pos rfl, nI_clamp (by omega), k2]
      by_cases g : 0 ≤ z_oI V
      · rw [if_pos g, if_pos g]
      · rw [if_neg g, if_neg g]
