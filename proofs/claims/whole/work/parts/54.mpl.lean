/-! level 2: the model's search -/
/-- only the model's own working rows may change -/
def z_Mf (M M' : Mem) : Prop := (∀ b, b < 93 ∨ b = 94 ∨ b = 95 ∨ b = 110 ∨ b = 111 ∨ b = 112 ∨ 120 ≤ b → M' b = M b) ∧ M' 93 3 = M 93 3 ∧ M' 93 26 = M 93 26 ∧ M' 93 54 = M 93 54
theorem z_Mf_r (M : Mem) : z_Mf M M := ⟨fun _ _ => rfl, rfl, rfl, rfl⟩
theorem z_Mf_t {M1 M2 M3 : Mem} (h : z_Mf M1 M2) (g : z_Mf M2 M3) : z_Mf M1 M3 := ⟨fun b hb => (g.1 b hb).trans (h.1 b hb), g.2.1.trans h.2.1, g.2.2.1.trans h.2.2.1, g.2.2.2.trans h.2.2.2⟩
theorem z_Mf_b {M M' : Mem} (h : ∀ b, b ≤ 95 ∨ b = 110 ∨ b = 111 ∨ b = 112 ∨ 120 ≤ b → M' b = M b) : z_Mf M M' := ⟨fun b hb => h b (by omega), by rw [h 93 (by omega)], by rw [h 93 (by omega)], by rw [h 93 (by omega)]⟩
theorem z_Mf_up {M : Mem} {k i : Nat} {x : Int32} (hk : (96 ≤ k ∧ k ≤ 109) ∨ (113 ≤ k ∧ k ≤ 119)) : z_Mf M (bw_up M k i x) := z_Mf_b (fun b hb => z_up_k _ _ _ _ (by omega))
theorem z_Mf_93 {M : Mem} {i : Nat} {x : Int32} (hi : i ≠ 3 ∧ i ≠ 26 ∧ i ≠ 54) : z_Mf M (bw_up M 93 i x) := ⟨fun b hb => z_up_k _ _ _ _ (by omega), z_up_i _ _ _ _ (by omega), z_up_i _ _ _ _ (by omega), z_up_i _ _ _ _ (by omega)⟩
def z_MT (R : Nat → Int32) (t : Nat) (u : TU) : Prop := z_Tok u ∧ R (158 + 2 * t) = nI (1000 * u.2.1 + u.2.2.length) ∧ ∀ k, k < u.2.2.length → R (186 + 96 * t + k) = z_menc (u.2.2.getD k 0)
theorem z_wrkT {M : Mem} {t : Nat} {u : TU} {a b c : Int32} (ht : t < 14) (h : z_MT (M 94) t u) (qa : M 117 0 = a) (qb : M 117 1 = b) (qc : u.2.1 = 0 → M 117 2 = c) : ∃ M', f_X10_worksOut M (nI t) = some (z_val a b c u.2.2, M') ∧ ∀ b, b ≠ 116 → M' b = M b := by
  have hfu : 100 < bw_fu := by decide
  obtain ⟨⟨k1, k2, k3, k4, k5⟩, g4, g6⟩ := h
  obtain ⟨M', e1, e2⟩ := z_mGiv (toks := u.2.2) (a := a) (b := b) (c := c) (t := t) (nm := z_nms u.2.1) ht (z_nms3 _) k4 u.2.2 0 bw_fu [] M g6 qa qb (by intro h; apply qc; unfold z_nms at h; split at h <;> omega) (by omega) (fun i _ => by rw [Nat.zero_add]) k5 (by simp) (fun i hi => by simp at hi) (by omega)
  refine ⟨M', ?_, e2⟩
  have i1 : bw_ib (158 + 2 * nI t) 1530 = true := by rw [l_158, l_2, pk_mul, nI_add]; exact z_ib (by omega) (by omega)
  have i2 : (158 + 2 * nI t : Int32).toNatClampNeg = 158 + 2 * t := by rw [l_158, l_2, pk_mul, nI_add]; exact nI_clamp (by omega)
  unfold f_X10_worksOut
  rw [i1, if_pos rfl, i2, g4, z_ml, l_1000, z_remN (by omega) (by omega) (by omega), show (1000 * u.2.1 + u.2.2.length) % 1000 = u.2.2.length by omega]
  exact e1
theorem z_cnt_fr {M M' : Mem} (h94 : M' 94 = M 94) (v : Int32) : f_X10_counts M' v = f_X10_counts M v := by
  have : ∀ fu x, f_X10_counts_L10 M' v fu x = f_X10_counts_L10 M v fu x := by
    intro fu
    induction fu with
    | zero => intro x; rfl
    | succ n ih => intro x; rw [f_X10_counts_L10, f_X10_counts_L10, h94, ih]
  unfold f_X10_counts
  rw [h94, z_ml, z_ml, this]
section
variable {m W pl c : Nat} {h t d A : Nat → Nat} {lw : Option TU} {q0 : Nat}
/-- how the model finds the law that counts for a key -/
def z_MLw (key : Int32) (lw : Option TU) (M : Mem) : Prop := match lw with
  | none => f_X10_counts M key = some (-1)
  | some u => ∃ tx, tx < 14 ∧ f_X10_counts M key = some (nI tx) ∧ z_MT (M 94) tx u
theorem z_MLw_fr {M M' : Mem} {key : Int32} (h94 : M' 94 = M 94) (h : z_MLw key lw M) : z_MLw key lw M' := by
  cases lw with
  | none => exact (z_cnt_fr h94 key).trans h
  | some u =>
    obtain ⟨tx, h1, h2, h3⟩ := h
    exact ⟨tx, h1, (z_cnt_fr h94 key).trans h2, by rw [h94]; exact h3⟩
def z_Mp (m W pl c : Nat) (h t d A : Nat → Nat) (lw : Option TU) (q0 : Nat) (M : Mem) : Prop := M 93 7 = nI m ∧ M 93 8 = nI W ∧ M 94 2 = nI pl ∧ M 93 10 = nI c ∧ (∀ j, j < m → M 97 j = nI (h j) ∧ M 98 j = nI (t j) ∧ M 99 j = nI (d j)) ∧ (∀ k, k < c → M 100 k = nI (A k)) ∧ z_MLw 0 lw M ∧ (q0 < 2 ^ 20 ∧ M 93 13 = nI q0) ∧ ∀ x, x < 2500 → (∃ p, p ≤ q0 ∧ M 102 x = nI p) ∧ (M 102 x = nI q0 → M 101 x = nI (z_P lw pl (x / 25) (x % 25)))
theorem z_Mp_fr {M M' : Mem} (h94 : M' 94 = M 94) (h93 : M' 93 7 = M 93 7 ∧ M' 93 8 = M 93 8 ∧ M' 93 10 = M 93 10 ∧ M' 93 13 = M 93 13) (h97 : ∀ k, 97 ≤ k → k ≤ 102 → M' k = M k) (hp : z_Mp m W pl c h t d A lw q0 M) : z_Mp m W pl c h t d A lw q0 M' := by
  obtain ⟨p1, p2, p3, p4, p5, p6, p7, p8, p9⟩ := hp
  refine ⟨by rw [h93.1]; exact p1, by rw [h93.2.1]; exact p2, by rw [h94]; exact p3, by rw [h93.2.2.1]; exact p4, ?_, ?_, z_MLw_fr h94 p7, ⟨p8.1, by rw [h93.2.2.2]; exact p8.2⟩, ?_⟩
  · rw [h97 97 (by omega) (by omega), h97 98 (by omega) (by omega), h97 99 (by omega) (by omega)]; exact p5
  · rw [h97 100 (by omega) (by omega)]; exact p6
  · rw [h97 101 (by omega) (by omega), h97 102 (by omega) (by omega)]; exact p9
def z_e0 (a : Nat) : Int32 := if a = 0 then -1 else nI a
theorem z_mSetL {M : Mem} {tl : Nat} (hc : c ≤ 6) (ht : tl ≤ 99) (h9 : M 93 10 = nI c) (h5 : ∀ k, k < c → M 100 k = nI (A k)) (hA : ∀ k, k < c → 1 ≤ A k ∧ A k ≤ 99) : ∀ r i fu a, i + r = c → r < fu → a ≤ 99 → f_X10_setOf_L13 M (nI tl) fu (z_e0 a) (nI i) = some (z_e0 (z_sfL A tl r i a)) := by
  intro r
  induction r with
  | zero =>
    intro i fu a h1 h2 h3
    obtain ⟨fu, rfl⟩ : ∃ f, fu = f + 1 := ⟨fu - 1, by omega⟩
    rw [f_X10_setOf_L13, h9, if_pos (nI_le (by omega) (by omega))]; rfl
  | succ r ih =>
    intro i fu a h1 h2 h3
    obtain ⟨fu, rfl⟩ : ∃ f, fu = f + 1 := ⟨fu - 1, by omega⟩
    have ha := hA i (by omega)
    rw [f_X10_setOf_L13, h9, if_neg (nI_ge (by omega) (by omega)), z_ib (by omega) (by omega), if_pos rfl, nI_clamp (by omega), h5 i (by omega), z_ml, nI_1]
    have e : (if nI (A i) < nI tl then z_e0 a else if z_e0 a < 0 then nI (A i) else if z_e0 a ≤ nI (A i) then z_e0 a else nI (A i)) = z_e0 (if A i < tl then a else if a = 0 then A i else if a ≤ A i then a else A i) := by
      have ea : z_e0 (A i) = nI (A i) := by unfold z_e0; rw [if_neg (by omega)]
      by_cases g1 : A i < tl
      · rw [if_pos (nI_lt g1 (by omega)), if_pos g1]
      · rw [if_neg (nI_nlt (by omega) (by omega)), if_neg g1]
        by_cases g2 : a = 0
        · subst g2; rw [if_pos (show z_e0 0 < 0 by decide), if_pos rfl, ea]
        · have eb : z_e0 a = nI a := by unfold z_e0; rw [if_neg g2]
          rw [if_neg (show ¬ z_e0 a < 0 by rw [eb]; exact nI_pos (by omega)), if_neg g2]
          by_cases g3 : a ≤ A i
          · rw [if_pos (show z_e0 a ≤ nI (A i) by rw [eb]; exact nI_le g3 (by omega)), if_pos g3]
          · rw [if_neg (show ¬ z_e0 a ≤ nI (A i) by rw [eb]; exact nI_ge (by omega) (by omega)), if_neg g3, ea]
    rw [e, ih (i + 1) fu _ (by omega) (by omega) (by split; omega; split; omega; split <;> omega)]
    rfl
theorem z_mSet {M : Mem} {tl : Nat} (hb : z_Bd m W pl c h t d A) (hp : z_Mp m W pl c h t d A lw q0 M) (h1 : 1 ≤ tl) (ht : tl ≤ 99) : f_X10_setOf M (nI tl) = some (z_e0 (z_sf A c tl)) := by
  have hfu : 30 < bw_fu := by decide
  obtain ⟨b1, b2, b3, b4, b5, b6⟩ := hb
  obtain ⟨p1, p2, p3, p4, p5, p6, p7, p8⟩ := hp
  unfold f_X10_setOf z_sf
  rw [p4]
  by_cases g : c = 0
  · rw [if_pos (show nI c = 0 from congrArg nI g), if_pos g]; unfold z_e0; rw [if_neg (by omega)]
  · rw [if_neg (show ¬ nI c = 0 from nI_ne0 (by omega) (by omega)), if_neg g, l_0]
    exact z_mSetL b4 ht p4 p6 b6 c 0 bw_fu 0 (by omega) (by omega) (by omega)
theorem z_mPr {M : Mem} {s b : Nat} (hbd : z_Bd m W pl c h t d A) (hp : z_Mp m W pl c h t d A lw q0 M) (hs : s ≤ 99) (hb : b ≤ 24) : ∃ M', f_X10_priceOf M (nI s) (nI b) = some (nI (z_P lw pl s b), M') ∧ z_Mp m W pl c h t d A lw q0 M' ∧ z_Mf M M' ∧ M' 93 = M 93 ∧ ∀ k, 96 ≤ k → k ≤ 119 → k ≠ 101 → k ≠ 102 → k ≠ 116 → k ≠ 117 → M' k = M k := by
  obtain ⟨b1, b2, b3, b4, b5, b6⟩ := hbd
  have hp' := hp
  obtain ⟨p1, p2, p3, p4, p5, p6, p7, ⟨pq, p8⟩, p9⟩ := hp
  unfold f_X10_priceOf
  cases lw with
  | none =>
    refine ⟨M, ?_, hp', z_Mf_r M, rfl, fun _ _ _ _ _ _ _ => rfl⟩
    rw [show f_X10_counts M 0 = some (-1) from p7, Option.bind_some, if_neg (by decide), show ((2 : Int32).toNatClampNeg) = 2 from rfl, p3, nI_add]; rfl
  | some u =>
    obtain ⟨tx, t1, t2, t3⟩ := p7
    have at1 : 25 * nI s + nI b = nI (25 * s + b) := by rw [l_25, pk_mul, nI_add]
    have dm : (25 * s + b) / 25 = s ∧ (25 * s + b) % 25 = b := by omega
    obtain ⟨⟨p, hpq, hx1⟩, hx2⟩ := p9 (25 * s + b) (by omega)
    rw [dm.1, dm.2] at hx2
    rw [t2, Option.bind_some, if_pos (nI_pos' (by omega)), at1, z_ib (by omega) (by omega), if_pos rfl, nI_clamp (by omega), p8]
    by_cases g : M 102 (25 * s + b) = nI q0
    · rw [if_pos g, hx2 g]
      exact ⟨M, rfl, hp', z_Mf_r M, rfl, fun _ _ _ _ _ _ _ => rfl⟩
    · rw [if_neg g, z_ml, z_ml, z_ml, z_ml]
      obtain ⟨M5, hM5⟩ : ∃ M5, M5 = bw_up (bw_up (bw_up (bw_up M 102 (25 * s + b) (nI q0)) 117 0 (nI s)) 117 1 (nI b)) 117 2 (nI pl) := ⟨_, rfl⟩
      have o5 : ∀ k, k ≠ 102 → k ≠ 117 → M5 k = M k := by
        intro k g1 g2; rw [hM5, z_up_k _ _ _ _ g2, z_up_k _ _ _ _ g2, z_up_k _ _ _ _ g2, z_up_k _ _ _ _ g1]
      obtain ⟨M6, e1, e2⟩ := z_wrkT (M := M5) (t := tx) (u := u) (a := nI s) (b := nI b) (c := nI pl) t1 (by rw [o5 94 (by omega) (by omega)]; exact t3) (by rw [hM5]; simp (disch := omega) only [z_up, if_pos, if_neg, ite_true, ite_false, and_self, and_true, true_and, and_false, false_and]) (by rw [hM5]; simp (disch := omega) only [z_up, if_pos, if_neg, ite_true, ite_false, and_self, and_true, true_and, and_false, false_and]) (by intro _; rw [hM5, z_up_s])
      have r102 : M6 102 = bw_up M 102 (25 * s + b) (nI q0) 102 := by
        rw [e2 102 (by omega), hM5]; simp (disch := omega) only [z_up_k]
      have o6 : ∀ k, k ≠ 102 → k ≠ 116 → k ≠ 117 → M6 k = M k := by
        intro k g1 g2 g3; rw [e2 k g2, o5 k g1 g3]
      refine ⟨bw_up M6 101 (25 * s + b) (nI (z_P (some u) pl s b)), ?_, ?_, ?_, ?_, ?_⟩
      · rw [show ((2 : Int32).toNatClampNeg) = 2 from rfl, show ((1 : Int32).toNatClampNeg) = 1 from rfl, show ((0 : Int32).toNatClampNeg) = 0 from rfl]
        have q2 : bw_up (bw_up (bw_up M 102 (25 * s + b) (nI q0)) 117 0 (nI s)) 117 1 (nI b) 94 2 = nI pl := by
          simp (disch := omega) only [z_up_k]; exact p3
        rw [q2, ← hM5, e1, Option.bind_some, l_9999, l_0, ← l_0, z_withE (by omega), z_ml, z_up_s]
        rfl
      · have o94 : bw_up M6 101 (25 * s + b) (nI (z_P (some u) pl s b)) 94 = M 94 := by rw [z_up_k _ _ _ _ (by omega), o6 94 (by omega) (by omega) (by omega)]
        have ok : ∀ k, k ≠ 101 → k ≠ 102 → k ≠ 116 → k ≠ 117 → bw_up M6 101 (25 * s + b) (nI (z_P (some u) pl s b)) k = M k := by
          intro k g1 g2 g3 g4; rw [z_up_k _ _ _ _ g1, o6 k g2 g3 g4]
        refine ⟨by rw [ok 93 (by omega) (by omega) (by omega) (by omega)]; exact p1, by rw [ok 93 (by omega) (by omega) (by omega) (by omega)]; exact p2, by rw [o94]; exact p3, by rw [ok 93 (by omega) (by omega) (by omega) (by omega)]; exact p4, ?_, ?_, z_MLw_fr o94 ⟨tx, t1, t2, t3⟩, ⟨pq, by rw [ok 93 (by omega) (by omega) (by omega) (by omega)]; exact p8⟩, ?_⟩
        · rw [ok 97 (by omega) (by omega) (by omega) (by omega), ok 98 (by omega) (by omega) (by omega) (by omega), ok 99 (by omega) (by omega) (by omega) (by omega)]; exact p5
        · rw [ok 100 (by omega) (by omega) (by omega) (by omega)]; exact p6
        · intro x hx
          rw [z_up_k _ _ _ _ (show 102 ≠ 101 by omega), r102]
          by_cases e : x = 25 * s + b
          · subst e
            rw [z_up_s, z_up_s, dm.1, dm.2]
            exact ⟨⟨q0, by omega, rfl⟩, fun _ => rfl⟩
          · rw [z_up_i _ _ _ _ e, z_up_i _ _ _ _ e, o6 101 (by omega) (by omega) (by omega)]
            exact p9 x hx
      · exact z_Mf_b (fun b hb => by rw [z_up_k _ _ _ _ (by omega), o6 b (by omega) (by omega) (by omega)])
      · rw [z_up_k _ _ _ _ (by omega), o6 93 (by omega) (by omega) (by omega)]
      · intro k g1 g2 g3 g4 g5 g6; rw [z_up_k _ _ _ _ g3, o6 k g4 g5 g6]
theorem z_mIn (hbd : z_Bd m W pl c h t d A) (L : Nat → Option Nat) (i : Nat) (hi : i < m) (hL : ∀ k q, i < k → L k = some q → q ≤ 9999 * (m - k)) : ∀ r j fu th tl M b x, z_Mp m W pl c h t d A lw q0 M → j + r = m → r < fu → i ≤ j → th ≤ 99 * j → tl ≤ 99 → M 103 i = z_oI b → (b ≠ none → M 104 i = nI (x - i)) → (∀ k, i < k → k ≤ m → M 103 k = z_oI (L k)) → (∀ q, b = some q → q ≤ 9999 * (m - i)) → ∃ M', f_X10_parts_L35 (nI i) fu (nI th) (nI tl) (nI j) M = some M' ∧ z_Mp m W pl c h t d A lw q0 M' ∧ z_Mf M M' ∧ M' 103 i = z_oI (z_i1 m W h t d (z_sf A c) (z_P lw pl) L i r j th tl b x).1 ∧ ((z_i1 m W h t d (z_sf A c) (z_P lw pl) L i r j th tl b x).1 ≠ none → M' 104 i = nI ((z_i1 m W h t d (z_sf A c) (z_P lw pl) L i r j th tl b x).2 - i)) ∧ (∀ k, k ≠ i → M' 103 k = M 103 k ∧ M' 104 k = M 104 k) ∧ M' 93 = M 93 ∧ ∀ k, 96 ≤ k → k ≤ 119 → k ≠ 101 → k ≠ 102 → k ≠ 103 → k ≠ 104 → k ≠ 116 → k ≠ 117 → M' k = M k := by
  obtain ⟨b1, b2, b3, b4, b5, b6⟩ := hbd
  have hbd' : z_Bd m W pl c h t d A := ⟨b1, b2, b3, b4, b5, b6⟩
  intro r
  induction r with
  | zero =>
    intro j fu th tl M b x hp h1 h2 h3 h4 h5 h7 h8 hk hb
    obtain ⟨fu, rfl⟩ : ∃ f, fu = f + 1 := ⟨fu - 1, by omega⟩
    refine ⟨M, ?_, hp, z_Mf_r M, h7, h8, fun _ _ => ⟨rfl, rfl⟩, rfl, fun _ _ _ _ _ _ _ _ _ => rfl⟩
    rw [f_X10_parts_L35, hp.1, if_pos (nI_le (by omega) (by omega))]
  | succ r ih =>
    intro j fu th tl M b x hp h1 h2 h3 h4 h5 h7 h8 hk hb
    obtain ⟨fu, rfl⟩ : ∃ f, fu = f + 1 := ⟨fu - 1, by omega⟩
    obtain ⟨p1, p2, p3, p4, p5, p6, p7, p8, p9⟩ := hp
    have hp' : z_Mp m W pl c h t d A lw q0 M := ⟨p1, p2, p3, p4, p5, p6, p7, p8, p9⟩
    obtain ⟨q1, q2, q3⟩ := p5 j (by omega)
    obtain ⟨r1, r2, r3, r4⟩ := b5 j (by omega)
    have mxE : (if nI (h j) ≤ nI tl then nI tl else nI (h j)) = nI (z_mx tl (h j)) := by
      unfold z_mx
      by_cases g : tl < h j
      · rw [if_pos g, if_neg (nI_ge g (by omega))]
      · rw [if_neg g, if_pos (nI_le (by omega) (by omega))]
    have mx99 : z_mx tl (h j) ≤ 99 := z_mx_le h5 r2
    have mx1 : 1 ≤ z_mx tl (h j) := by unfold z_mx; split <;> omega
    have sE := z_mSet hbd' hp' mx1 mx99
    have s99 : z_sf A c (z_mx tl (h j)) ≤ 99 := z_sf_le (fun k hk => (b6 k hk).2) mx99
    have rec0 := ih (j + 1) fu (th + t j) (z_mx tl (h j)) M b x hp'
    rw [f_X10_parts_L35, p1, if_neg (nI_ge (by omega) (by omega)), z_ib (by omega) (by omega), if_pos rfl, nI_clamp (by omega), q1, q2, q3, mxE, z_ml, p2, nI_add, sE, Option.bind_some, nI_1, z_i1]
    by_cases gW : W < th + t j
    · rw [if_neg (nI_ge (by omega) (by omega)), if_pos gW]
      exact ⟨M, rfl, hp', z_Mf_r M, h7, h8, fun _ _ => ⟨rfl, rfl⟩, rfl, fun _ _ _ _ _ _ _ _ _ => rfl⟩
    · rw [if_pos (nI_le (by omega) (by omega)), if_neg gW]
      have rec0 := rec0 (by omega) (by omega) (by omega) (by omega) mx99 h7 h8 hk hb
      by_cases gS : z_sf A c (z_mx tl (h j)) = 0
      · rw [gS, if_pos (show z_e0 0 < 0 by decide), if_neg (show ¬ ((m ≤ j + 1 ∨ d j = 0) ∧ 0 < 0) by omega)]
        exact rec0
      · have eS : z_e0 (z_sf A c (z_mx tl (h j))) = nI (z_sf A c (z_mx tl (h j))) := by unfold z_e0; rw [if_neg gS]
        rw [eS, if_neg (nI_pos (by omega)), z_ib (by omega) (by omega), if_pos rfl, nI_clamp (by omega), hk (j + 1) (by omega) (by omega)]
        cases hLj : L (j + 1) with
        | none =>
          rw [if_pos (show z_oI none < 0 by decide)]
          have : (if (m ≤ j + 1 ∨ d j = 0) ∧ 0 < z_sf A c (z_mx tl (h j)) then (none : Option Nat) else none) = none := by split <;> rfl
          rw [this]
          exact rec0
        | some q =>
          have q9 := hL (j + 1) q (by omega) hLj
          rw [if_neg (show ¬ z_oI (some q) < 0 from nI_pos (by omega))]
          obtain ⟨M1, e1, e2, e3, e4, e5⟩ := z_mPr (s := z_sf A c (z_mx tl (h j))) (b := j + 1 - i) hbd' hp' s99 (by omega)
          have P9 := z_P_le (lw := lw) (pl := pl) (h := z_sf A c (z_mx tl (h j))) (b := j + 1 - i) b3 s99
          have m7 : M1 103 = M 103 := e5 103 (by omega) (by omega) (by omega) (by omega) (by omega) (by omega)
          have m8 : M1 104 = M 104 := e5 104 (by omega) (by omega) (by omega) (by omega) (by omega) (by omega)
          have ji : nI j - nI i + 1 = nI (j + 1 - i) := by rw [pk_sub h3, nI_1]; congr 1; omega
          obtain ⟨pr, e1, ep1, ep2⟩ : ∃ pr : Int32 × Mem, f_X10_priceOf M (nI (z_sf A c (z_mx tl (h j)))) (nI (j + 1 - i)) = some pr ∧ pr.1 = nI (z_P lw pl (z_sf A c (z_mx tl (h j))) (j + 1 - i)) ∧ pr.2 = M1 := ⟨_, e1, rfl, rfl⟩
          -- the two places where a price is asked for are one
          have one : ∀ {α : Type} (X Y : α), (if nI (d j) = 0 then X else if nI m - 1 ≤ nI j then X else Y) = if m ≤ j + 1 ∨ d j = 0 then X else Y := by
            intro α X Y
            by_cases g1 : d j = 0
            · rw [if_pos (show nI (d j) = 0 from congrArg nI g1), if_pos (Or.inr g1)]
            · rw [if_neg (show ¬ nI (d j) = 0 from nI_ne0 (by omega) (by omega)), show nI m - 1 = nI (m - 1) from pk_sub (b := 1) (by omega)]
              by_cases g2 : m ≤ j + 1
              · rw [if_pos (nI_le (by omega) (by omega)), if_pos (Or.inl g2)]
              · rw [if_neg (nI_ge (by omega) (by omega)), if_neg (by omega)]
          rw [one]
          by_cases gE : m ≤ j + 1 ∨ d j = 0
          · rw [if_pos gE, if_pos (show (m ≤ j + 1 ∨ d j = 0) ∧ 0 < z_sf A c (z_mx tl (h j)) by omega), ji, e1, Option.bind_some, ep1, ep2, m7, hk (j + 1) (by omega) (by omega), hLj, show z_oI (some q) = nI q from rfl, nI_add, z_ml, z_ib (by omega) (by omega), if_pos rfl, nI_clamp (by omega), h7]
            generalize z_P lw pl (z_sf A c (z_mx tl (h j))) (j + 1 - i) = p0 at *
            have up : ∃ M', f_X10_parts_L35 (nI i) fu (nI (th + t j)) (nI (z_mx tl (h j))) (nI (j + 1)) (bw_up (bw_up M1 103 i (nI (p0 + q))) 104 i (nI (j + 1 - i))) = some M' ∧ z_Mp m W pl c h t d A lw q0 M' ∧ z_Mf M M' ∧ M' 103 i = z_oI (z_i1 m W h t d (z_sf A c) (z_P lw pl) L i r (j + 1) (th + t j) (z_mx tl (h j)) (some (p0 + q)) (j + 1)).1 ∧ ((z_i1 m W h t d (z_sf A c) (z_P lw pl) L i r (j + 1) (th + t j) (z_mx tl (h j)) (some (p0 + q)) (j + 1)).1 ≠ none → M' 104 i = nI ((z_i1 m W h t d (z_sf A c) (z_P lw pl) L i r (j + 1) (th + t j) (z_mx tl (h j)) (some (p0 + q)) (j + 1)).2 - i)) ∧ (∀ k, k ≠ i → M' 103 k = M 103 k ∧ M' 104 k = M 104 k) ∧ M' 93 = M 93 ∧ ∀ k, 96 ≤ k → k ≤ 119 → k ≠ 101 → k ≠ 102 → k ≠ 103 → k ≠ 104 → k ≠ 116 → k ≠ 117 → M' k = M k := by
              obtain ⟨M2, hM2⟩ : ∃ M2, M2 = bw_up (bw_up M1 103 i (nI (p0 + q))) 104 i (nI (j + 1 - i)) := ⟨_, rfl⟩
              have o2 : ∀ b, b ≠ 103 → b ≠ 104 → M2 b = M1 b := by
                intro b g1 g2; rw [hM2, z_up_k _ _ _ _ g2, z_up_k _ _ _ _ g1]
              have c2 : z_Mf M1 M2 := z_Mf_b (fun b hb => o2 b (by omega) (by omega))
              have a7 : ∀ k, M2 103 k = if k = i then nI (p0 + q) else M 103 k := by
                intro k; rw [hM2, z_up_k _ _ _ _ (by omega), z_up, m7]; by_cases e : k = i <;> simp [e]
              have a8 : ∀ k, M2 104 k = if k = i then nI (j + 1 - i) else M 104 k := by
                intro k; rw [hM2, z_up, z_up_k _ _ _ _ (by omega), m8]; by_cases e : k = i <;> simp [e]
              have pl2 : z_Mp m W pl c h t d A lw q0 M2 := z_Mp_fr (o2 94 (by omega) (by omega)) (by rw [o2 93 (by omega) (by omega)]; exact ⟨rfl, rfl, rfl, rfl⟩) (fun k g1 g2 => o2 k (by omega) (by omega)) e2
              obtain ⟨M', f1, f2, f3, f4, f5, f6, f8, f7⟩ := ih (j + 1) fu (th + t j) (z_mx tl (h j)) M2 (some (p0 + q)) (j + 1) pl2 (by omega) (by omega) (by omega) (by omega) mx99 (by rw [a7, if_pos rfl]; rfl) (by intro _; rw [a8, if_pos rfl]) (by intro k g1 g2; rw [a7, if_neg (by omega)]; exact hk k g1 g2) (by intro q' hq'; injection hq' with hq'; omega)
              rw [hM2] at f1
              refine ⟨M', f1, f2, z_Mf_t e3 (z_Mf_t c2 f3), f4, f5, ?_, ?_, ?_⟩
              · intro k g1
                rw [(f6 k g1).1, (f6 k g1).2, a7, a8, if_neg g1, if_neg g1]; exact ⟨rfl, rfl⟩
              · rw [f8, o2 93 (by omega) (by omega), e4]
              · intro k g1 g2 g3 g4 g5 g6 g7 g8; rw [f7 k g1 g2 g3 g4 g5 g6 g7 g8, o2 k g5 g6, e5 k g1 g2 g3 g4 g7 g8]
            cases b with
            | none =>
              rw [if_pos (show z_oI none < 0 by decide), z_ml, z_ml]
              dsimp only
              rw [if_pos (show z_bt none (p0 + q) = true from rfl)]
              exact up
            | some b0 =>
              have b9 := hb b0 rfl
              rw [if_neg (show ¬ z_oI (some b0) < 0 from nI_pos (by omega))]
              by_cases gb : p0 + q ≤ b0
              · rw [if_neg (show ¬ z_oI (some b0) < nI (p0 + q) from nI_nlt gb (by omega)), z_ml, z_ml]
                dsimp only
                rw [if_pos (show z_bt (some b0) (p0 + q) = true by simp [z_bt, gb])]
                exact up
              · rw [if_pos (show z_oI (some b0) < nI (p0 + q) from nI_lt (by omega) (by omega))]
                dsimp only
                rw [if_neg (show ¬ z_bt (some b0) (p0 + q) = true by simp [z_bt]; omega)]
                obtain ⟨M', f1, f2, f3, f4, f5, f6, f8, f7⟩ := ih (j + 1) fu (th + t j) (z_mx tl (h j)) M1 (some b0) x e2 (by omega) (by omega) (by omega) (by omega) mx99 (by rw [m7]; exact h7) (by rw [m8]; exact h8) (by rw [m7]; exact hk) hb
                refine ⟨M', f1, f2, z_Mf_t e3 f3, f4, f5, ?_, by rw [f8, e4], ?_⟩
                · intro k g1; rw [(f6 k g1).1, (f6 k g1).2, m7, m8]; exact ⟨rfl, rfl⟩
                · intro k g1 g2 g3 g4 g5 g6 g7 g8; rw [f7 k g1 g2 g3 g4 g5 g6 g7 g8, e5 k g1 g2 g3 g4 g7 g8]
          · rw [if_neg gE, if_neg (show ¬ ((m ≤ j + 1 ∨ d j = 0) ∧ 0 < z_sf A c (z_mx tl (h j))) by omega)]
            exact rec0
end
