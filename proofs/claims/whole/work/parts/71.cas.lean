/-! level 2: cases -/
def z_fl (C b l : Nat) : Nat := if b = 0 ∨ C < b % 1000 + l then (b / 1000 + 1) * 1000 + l else b + l
def z_cu (U : Nat → Option Nat) (k v : Nat) : Nat → Option Nat := fun x => if x = k then (match U k with
  | none => some v
  | some y => if y ≤ v then some y else some v) else U x
/-- what is kept of the values -/
def z_UI (U : Nat → Option Nat) : Prop := ∀ j x, U j = some x → (x = 0 ∨ 1000 ≤ x) ∧ x ≤ 2000 * j
theorem z_cuI {U : Nat → Option Nat} {k v : Nat} (hU : z_UI U) (h1 : 1000 ≤ v) (h2 : v ≤ 2000 * k) : z_UI (z_cu U k v) := by
  intro j x hx
  unfold z_cu at hx
  by_cases g : j = k
  · subst g
    rw [if_pos rfl] at hx
    cases h : U j with
    | none => rw [h] at hx; simp at hx; omega
    | some y =>
      rw [h] at hx
      dsimp only at hx
      split at hx
      · simp at hx; have := hU j y h; omega
      · simp at hx; omega
  · rw [if_neg g] at hx; exact hU j x hx
theorem z_flB {C b l : Nat} (hC : C ≤ 999) (hl : l ≤ C) (hb : b = 0 ∨ 1000 ≤ b) : 1000 ≤ z_fl C b l ∧ z_fl C b l ≤ b + 2000 := by
  unfold z_fl
  by_cases g : b = 0 ∨ C < b % 1000 + l
  · rw [if_pos g]; omega
  · rw [if_neg g]; omega
section
variable {m W pl c C : Nat} {h t d A : Nat → Nat} {lw : Option TU} {q0 : Nat}
def z_ci (m W pl C : Nat) (h t d sf : Nat → Nat) (b : Nat) : Nat → Nat → Nat → Nat → (Nat → Option Nat) → (Nat → Option Nat)
  | 0, _, _, _, U => U
  | r + 1, j, th, tl, U => if W < th + t j then U else z_ci m W pl C h t d sf b r (j + 1) (th + t j) (z_mx tl (h j)) (if (m ≤ j + 1 ∨ d j = 0) ∧ 0 < sf (z_mx tl (h j)) ∧ sf (z_mx tl (h j)) + pl ≤ C then z_cu U (j + 1) (z_fl C b (sf (z_mx tl (h j)) + pl)) else U)
def z_co (m W pl C : Nat) (h t d sf : Nat → Nat) : Nat → Nat → (Nat → Option Nat) → (Nat → Option Nat)
  | 0, _, U => U
  | r + 1, i, U => z_co m W pl C h t d sf r (i + 1) (match U i with
    | none => U
    | some b => z_ci m W pl C h t d sf b (m - i) i 0 0 U)
theorem z_cFl {b l : Nat} {M : Mem} (hb : b = 0 ∨ 1000 ≤ b) (hb2 : b < 2 ^ 30) (hl : l ≤ 999) (hC : C ≤ 999) (h6 : M 1 6 = nI C) : f_X2_filledBy M (nI b) (nI l) = nI (z_fl C b l) := by
  unfold f_X2_filledBy z_fl
  have e1 : nI b / 1000 = nI (b / 1000) := by rw [l_1000, pk_div (by omega) (by omega) (by omega)]
  have e2 : bw_rem (nI b) 1000 = nI (b % 1000) := by rw [l_1000, z_remN (by omega) (by omega) (by omega)]
  have e3 : (nI (b / 1000) + 1) * 1000 + nI l = nI ((b / 1000 + 1) * 1000 + l) := by rw [nI_1, l_1000, pk_mul, nI_add]
  rw [e1, e2, h6, nI_add, nI_add, e3]
  by_cases g : b = 0
  · rw [if_pos (show nI (b / 1000) ≤ 0 from nI_le (b := 0) (by omega) (by omega)), if_pos (Or.inl g)]
  · rw [if_neg (nI_nle (by omega) (by omega))]
    by_cases g2 : C < b % 1000 + l
    · rw [if_pos (nI_lt g2 (by omega)), if_pos (Or.inr g2)]
    · rw [if_neg (nI_nlt (by omega) (by omega)), if_neg (by omega)]
theorem z_cFi (hbd : z_Bd m W pl c h t d A) (hC : C ≤ 999) {i b : Nat} (hi : i < m) (hb : b = 0 ∨ 1000 ≤ b) (hb2 : b ≤ 2000 * i) : ∀ r j fu th tl M U, z_Pl m W pl c h t d A lw M → M 1 6 = nI C → j + r = m → r < fu → i ≤ j → th ≤ 99 * j → tl ≤ 99 → z_UI U → U i = some b → (∀ k, k ≤ m → M 10 k = z_oI (U k)) → ∃ M', f_X2_fillFrom_L7 (nI i) fu (nI th) (nI tl) (nI j) M = some M' ∧ (∀ k, k ≤ m → M' 10 k = z_oI (z_ci m W pl C h t d (z_sf A c) b r j th tl U k)) ∧ z_UI (z_ci m W pl C h t d (z_sf A c) b r j th tl U) ∧ ∀ k, k ≠ 10 → M' k = M k := by
  have hbd' := hbd
  obtain ⟨b1, b2, b3, b4, b5, b6⟩ := hbd
  intro r
  induction r with
  | zero =>
    intro j fu th tl M U hp h6 h1 h2 h3 h4 h5 hU hUi hk
    obtain ⟨fu, rfl⟩ : ∃ f, fu = f + 1 := ⟨fu - 1, by omega⟩
    refine ⟨M, ?_, hk, hU, fun _ _ => rfl⟩
    rw [f_X2_fillFrom_L7, hp.1, if_pos (nI_le (by omega) (by omega))]
  | succ r ih =>
    intro j fu th tl M U hp h6 h1 h2 h3 h4 h5 hU hUi hk
    obtain ⟨fu, rfl⟩ : ∃ f, fu = f + 1 := ⟨fu - 1, by omega⟩
    obtain ⟨p1, p2, p3, p4, p5, p6, p7, p8⟩ := hp
    have hp' : z_Pl m W pl c h t d A lw M := ⟨p1, p2, p3, p4, p5, p6, p7, p8⟩
    obtain ⟨q1, q2, q3⟩ := p5 j (by omega)
    obtain ⟨r1, r2, r3, r4⟩ := b5 j (by omega)
    have mxE : bw_max (nI tl) (nI (h j)) = nI (z_mx tl (h j)) := z_maxN (by omega) (by omega)
    have mx99 : z_mx tl (h j) ≤ 99 := z_mx_le h5 r2
    have sE := z_cSet hbd' hp' mx99
    have s99 : z_sf A c (z_mx tl (h j)) ≤ 99 := z_sf_le (fun k hk => (b6 k hk).2) mx99
    have eE : f_X2_endsLine M (nI j) = some (if m ≤ j + 1 ∨ d j = 0 then 1 else 0) := by
      unfold f_X2_endsLine
      rw [p1, nI_1]
      by_cases g : m ≤ j + 1
      · rw [if_pos (nI_le g (by omega)), if_pos (Or.inl g)]
      · rw [if_neg (nI_ge (by omega) (by omega)), z_ib (by omega) (by omega), if_pos rfl, nI_clamp (by omega), q3]
        by_cases g2 : d j = 0
        · rw [if_pos (show nI (d j) = 0 from congrArg nI g2), if_pos (Or.inr g2)]
        · rw [if_neg (show ¬ nI (d j) = 0 from nI_ne0 (by omega) (by omega)), if_neg (by omega)]
    rw [f_X2_fillFrom_L7, p1, if_neg (nI_ge (by omega) (by omega)), z_ib (by omega) (by omega), if_pos rfl, nI_clamp (by omega), q1, q2, mxE, z_ml, p2, nI_add, sE, Option.bind_some, eE, Option.bind_some, nI_1, p3, nI_add, h6, z_ci]
    by_cases gW : W < th + t j
    · rw [if_neg (nI_ge (by omega) (by omega)), if_pos gW]
      exact ⟨M, rfl, hk, hU, fun _ _ => rfl⟩
    · rw [if_pos (nI_le (by omega) (by omega)), if_neg gW]
      have rec0 := ih (j + 1) fu (th + t j) (z_mx tl (h j)) M U hp' h6 (by omega) (by omega) (by omega) (by omega) mx99 hU hUi hk
      by_cases gE : m ≤ j + 1 ∨ d j = 0
      · rw [if_pos gE, if_neg (by decide)]
        by_cases gS : z_sf A c (z_mx tl (h j)) = 0
        · rw [if_pos (show nI (z_sf A c (z_mx tl (h j))) ≤ 0 from nI_le (b := 0) (by omega) (by omega)), if_neg (show ¬ ((m ≤ j + 1 ∨ d j = 0) ∧ 0 < z_sf A c (z_mx tl (h j)) ∧ z_sf A c (z_mx tl (h j)) + pl ≤ C) by omega)]
          exact rec0
        · rw [if_neg (nI_nle (by omega) (by omega))]
          by_cases gC : C < z_sf A c (z_mx tl (h j)) + pl
          · rw [if_pos (nI_lt gC (by omega)), if_neg (show ¬ ((m ≤ j + 1 ∨ d j = 0) ∧ 0 < z_sf A c (z_mx tl (h j)) ∧ z_sf A c (z_mx tl (h j)) + pl ≤ C) by omega)]
            exact rec0
          · have ub := hU i b hUi
            obtain ⟨f1, f2⟩ := z_flB (b := b) hC (show z_sf A c (z_mx tl (h j)) + pl ≤ C by omega) hb
            rw [if_neg (nI_nlt (by omega) (by omega)), if_pos (show (m ≤ j + 1 ∨ d j = 0) ∧ 0 < z_sf A c (z_mx tl (h j)) ∧ z_sf A c (z_mx tl (h j)) + pl ≤ C from ⟨gE, by omega, by omega⟩), z_ib (by omega) (by omega), if_pos rfl, nI_clamp (by omega), hk i (by omega), hUi, show z_oI (some b) = nI b from rfl, z_cFl hb (by omega) (by omega) hC h6, z_ml, z_ib (by omega) (by omega), if_pos rfl, nI_clamp (by omega), hk (j + 1) (by omega)]
            generalize z_fl C b (z_sf A c (z_mx tl (h j)) + pl) = v at *
            have up : ∃ M', f_X2_fillFrom_L7 (nI i) fu (nI (th + t j)) (nI (z_mx tl (h j))) (nI (j + 1)) (bw_up M 10 (j + 1) (z_oI (z_cu U (j + 1) v (j + 1)))) = some M' ∧ (∀ k, k ≤ m → M' 10 k = z_oI (z_ci m W pl C h t d (z_sf A c) b r (j + 1) (th + t j) (z_mx tl (h j)) (z_cu U (j + 1) v) k)) ∧ z_UI (z_ci m W pl C h t d (z_sf A c) b r (j + 1) (th + t j) (z_mx tl (h j)) (z_cu U (j + 1) v)) ∧ ∀ k, k ≠ 10 → M' k = M k := by
              have o : ∀ k, k ≠ 10 → bw_up M 10 (j + 1) (z_oI (z_cu U (j + 1) v (j + 1))) k = M k := fun k hk => z_up_k _ _ _ _ hk
              obtain ⟨M', g1, g2, g3, g4⟩ := ih (j + 1) fu (th + t j) (z_mx tl (h j)) (bw_up M 10 (j + 1) (z_oI (z_cu U (j + 1) v (j + 1)))) (z_cu U (j + 1) v) (z_Pl_fr (z_Cf_up (by omega)) (fun x _ => by rw [o 1 (by omega)]) (fun k g1 g2 => o k (by omega)) (by rw [o 6 (by omega)]; exact p8) hp') (by rw [o 1 (by omega)]; exact h6) (by omega) (by omega) (by omega) (by omega) mx99 (z_cuI hU f1 (by omega)) (by unfold z_cu; rw [if_neg (by omega)]; exact hUi) (by
                intro k hkm
                by_cases e : k = j + 1
                · rw [e, z_up_s]
                · rw [z_up_i _ _ _ _ e, hk k hkm]; unfold z_cu; rw [if_neg e])
              exact ⟨M', g1, g2, g3, fun k hk => by rw [g4 k hk, o k hk]⟩
            cases hUj : U (j + 1) with
            | none =>
              have cuv : z_cu U (j + 1) v (j + 1) = some v := by unfold z_cu; rw [if_pos rfl, hUj]
              rw [cuv] at up
              rw [if_pos (show z_oI none < 0 by decide), z_ml]
              exact up
            | some y =>
              have yb := hU (j + 1) y hUj
              rw [if_neg (show ¬ z_oI (some y) < 0 from nI_pos (by omega))]
              by_cases gy : y ≤ v
              · have cuv : z_cu U (j + 1) v = U := by
                  funext x
                  unfold z_cu
                  by_cases e : x = j + 1
                  · rw [if_pos e, hUj, e, hUj]; dsimp only; rw [if_pos gy]
                  · rw [if_neg e]
                rw [if_pos (show z_oI (some y) ≤ nI v from nI_le gy (by omega)), cuv]
                exact rec0
              · have cuv : z_cu U (j + 1) v (j + 1) = some v := by unfold z_cu; rw [if_pos rfl, hUj]; dsimp only; rw [if_neg gy]
                rw [cuv] at up
                rw [if_neg (show ¬ z_oI (some y) ≤ nI v from nI_ge (by omega) (by omega)), z_ml]
                exact up
      · rw [if_neg gE, if_pos rfl, if_neg (show ¬ ((m ≤ j + 1 ∨ d j = 0) ∧ 0 < z_sf A c (z_mx tl (h j)) ∧ z_sf A c (z_mx tl (h j)) + pl ≤ C) by omega)]
        exact rec0
theorem z_cFo (hbd : z_Bd m W pl c h t d A) (hC : C ≤ 999) : ∀ r i fu M U, z_Pl m W pl c h t d A lw M → M 1 6 = nI C → i + r = m → r < fu → z_UI U → (∀ k, k ≤ m → M 10 k = z_oI (U k)) → ∃ M', f_X2_leastFilled_L17 fu (nI i) M = some (z_oI (z_co m W pl C h t d (z_sf A c) r i U m), M') ∧ z_UI (z_co m W pl C h t d (z_sf A c) r i U) ∧ ∀ k, k ≠ 10 → M' k = M k := by
  have hfu : 100 < bw_fu := by decide
  have b1 := hbd.1
  intro r
  induction r with
  | zero =>
    intro i fu M U hp h6 h1 h2 hU hk
    obtain ⟨fu, rfl⟩ : ∃ f, fu = f + 1 := ⟨fu - 1, by omega⟩
    refine ⟨M, ?_, hU, fun _ _ => rfl⟩
    rw [f_X2_leastFilled_L17, hp.1, if_pos (nI_le (by omega) (by omega)), z_ib (by omega) (by omega), if_pos rfl, nI_clamp (by omega), hk m (by omega)]; rfl
  | succ r ih =>
    intro i fu M U hp h6 h1 h2 hU hk
    obtain ⟨fu, rfl⟩ : ∃ f, fu = f + 1 := ⟨fu - 1, by omega⟩
    rw [f_X2_leastFilled_L17, hp.1, if_neg (nI_ge (by omega) (by omega)), z_ib (by omega) (by omega), if_pos rfl, nI_clamp (by omega), hk i (by omega), nI_1, z_co]
    cases hUi : U i with
    | none =>
      rw [if_pos (show z_oI none < 0 by decide)]
      exact ih (i + 1) fu M U hp h6 (by omega) (by omega) hU hk
    | some b =>
      have ub := hU i b hUi
      rw [if_neg (show ¬ z_oI (some b) < 0 from nI_pos (by omega))]
      obtain ⟨M1, e1, e2, e3, e4⟩ := z_cFi (lw := lw) hbd hC (i := i) (b := b) (by omega) ub.1 ub.2 (m - i) i bw_fu 0 0 M U hp h6 (by omega) (by omega) (by omega) (by omega) (by omega) hU hUi hk
      have e1' : f_X2_fillFrom M (nI i) = some M1 := by
        unfold f_X2_fillFrom
        rw [show nI 0 = 0 from rfl] at e1
        exact e1
      rw [e1', Option.bind_some]
      obtain ⟨M', f1, f2, f3⟩ := ih (i + 1) fu M1 _ (z_Pl_fr (z_Cf_b (fun b hb => e4 b (by omega))) (fun x _ => by rw [e4 1 (by omega)]) (fun k g1 g2 => e4 k (by omega)) (by rw [e4 6 (by omega)]; exact hp.2.2.2.2.2.2.2) hp) (by rw [e4 1 (by omega)]; exact h6) (by omega) (by omega) e3 e2
      exact ⟨M', f1, f2, fun k hk => by rw [f3 k hk, e4 k hk]⟩
end
