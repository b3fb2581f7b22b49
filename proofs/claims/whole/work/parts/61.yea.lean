/-! level 2: years -/
def z_am (F : Nat → Int32) : Nat → Nat → Nat → Nat
  | 0, _, b => b
  | r + 1, i, b => z_am F r (i + 1) (if F i ≤ F b then b else i)
theorem z_am_lt {F : Nat → Int32} {l : Nat} : ∀ r i b, i + r = l → b < l → z_am F r i b < l := by
  intro r
  induction r with
  | zero => intro i b _ h; exact h
  | succ r ih => intro i b h1 h2; rw [z_am]; exact ih (i + 1) _ (by omega) (by split <;> omega)
/-- the last book of a part -/
def z_lb (s : Nat → Nat) (p : Nat) : Nat → Option Nat
  | 0 => none
  | i + 1 => if s (16 + 4 * i) = p then some i else z_lb s p i
theorem z_lb_lt {s : Nat → Nat} {p : Nat} : ∀ i b, z_lb s p i = some b → b < i := by
  intro i
  induction i with
  | zero => intro b h; simp [z_lb] at h
  | succ i ih =>
    intro b h
    rw [z_lb] at h
    split at h
    · injection h with h; omega
    · have := ih b h; omega
def z_ga (ln : Nat → Nat) (o : Option Nat) : Int32 := match o with
  | none => -1
  | some b => nI (ln b)
/-- what a part grows in a year -/
def z_gv (lg : Option TU) (p y : Nat) : Int32 := match lg with
  | none => 1
  | some u => nI (z_cl 99 (z_val (nI p) (nI y) 0 u.2.2))
def z_upF (F : Nat → Int32) (l : Nat) (x : Int32) : Nat → Int32 := fun k => if k = l then x else F k
def z_gr (lg : Option TU) (la : Nat → Option Nat) (ln : Nat → Nat) (y : Nat) : Nat → Nat → (Nat → Int32) → (Nat → Int32)
  | 0, _, F => F
  | r + 1, p, F => z_gr lg la ln y r (p + 1) (match la p with
    | none => F
    | some b => z_upF F (ln b) (F (ln b) + z_gv lg p y))
/-- the class's years -/
def z_CY (len : Nat) (ln : Nat → Nat) (la : Nat → Option Nat) (lg : Option TU) (F : Nat → Int32) (M : Mem) : Prop := M 11 0 = nI len ∧ (∀ k, k < len → M 12 k = F k) ∧ (∀ p, p < 8 → M 13 p = z_ga ln (la p)) ∧ M 11 3 = z_lwI lg ∧ ∀ u, lg = some u → z_LOK M u
def z_MY (len m : Nat) (ln : Nat → Nat) (lg : Option TU) (s : Nat → Nat) (F : Nat → Int32) (M : Mem) : Prop := M 93 17 = nI len ∧ (∀ k, k < len → M 118 k = F k) ∧ (∀ b, b < m → M 106 b = nI (ln b)) ∧ z_MR M 94 s ∧ s 4 = m ∧ z_MLw 2 lg M ∧ (∀ u, lg = some u → u.2.1 = 2)
section
variable {len m : Nat} {ln : Nat → Nat} {la : Nat → Option Nat} {lg : Option TU} {s : Nat → Nat}
theorem z_cAm {M : Mem} {F : Nat → Int32} (hl : len ≤ 24) (h0 : M 11 0 = nI len) (h2 : ∀ k, k < len → M 12 k = F k) : ∀ r i fu b, i + r = len → b < len → r < fu → f_X8_thickest_L4 M fu (nI b) (nI i) = some (nI (z_am F r i b)) := by
  intro r
  induction r with
  | zero =>
    intro i fu b h1 hb h3
    obtain ⟨fu, rfl⟩ : ∃ f, fu = f + 1 := ⟨fu - 1, by omega⟩
    rw [f_X8_thickest_L4, h0, if_pos (nI_le (by omega) (by omega))]; rfl
  | succ r ih =>
    intro i fu b h1 hb h3
    obtain ⟨fu, rfl⟩ : ∃ f, fu = f + 1 := ⟨fu - 1, by omega⟩
    rw [f_X8_thickest_L4, h0, if_neg (nI_ge (by omega) (by omega)), z_ib (by omega) (by omega), if_pos rfl, z_ib (by omega) (by omega), if_pos rfl, nI_clamp (by omega), nI_clamp (by omega), h2 i (by omega), h2 b hb, nI_1, z_am]
    by_cases g : F i ≤ F b
    · rw [if_pos g, if_pos g]; exact ih (i + 1) fu b (by omega) hb (by omega)
    · rw [if_neg g, if_neg g]; exact ih (i + 1) fu i (by omega) (by omega) (by omega)
theorem z_mAm {M : Mem} {F : Nat → Int32} (hl : len ≤ 24) (h0 : M 93 17 = nI len) (h2 : ∀ k, k < len → M 118 k = F k) : ∀ r i fu b, i + r = len → b < len → r < fu → f_X10_mostFull_L4 M fu (nI b) (nI i) = some (nI (z_am F r i b)) := by
  intro r
  induction r with
  | zero =>
    intro i fu b h1 hb h3
    obtain ⟨fu, rfl⟩ : ∃ f, fu = f + 1 := ⟨fu - 1, by omega⟩
    rw [f_X10_mostFull_L4, h0, if_pos (nI_le (by omega) (by omega))]; rfl
  | succ r ih =>
    intro i fu b h1 hb h3
    obtain ⟨fu, rfl⟩ : ∃ f, fu = f + 1 := ⟨fu - 1, by omega⟩
    rw [f_X10_mostFull_L4, h0, if_neg (nI_ge (by omega) (by omega)), z_ib (by omega) (by omega), if_pos rfl, z_ib (by omega) (by omega), if_pos rfl, nI_clamp (by omega), nI_clamp (by omega), h2 i (by omega), h2 b hb, z_ml, nI_1, z_am]
    by_cases g : F i ≤ F b
    · rw [if_pos g, if_pos g]; exact ih (i + 1) fu b (by omega) hb (by omega)
    · rw [if_neg g, if_neg g]; exact ih (i + 1) fu i (by omega) (by omega) (by omega)
theorem z_cTk {M : Mem} {F : Nat → Int32} (hl : len ≤ 24) (h1 : 1 ≤ len) (hy : z_CY len ln la lg F M) : f_X8_thickest M = some (nI (z_am F (len - 1) 1 0)) ∧ f_X8_thickness M = some (F (z_am F (len - 1) 1 0)) := by
  have hfu : 100 < bw_fu := by decide
  have hz := z_am_lt (F := F) (l := len) (len - 1) 1 0 (by omega) (by omega)
  have a : f_X8_thickest M = some (nI (z_am F (len - 1) 1 0)) := by
    have := z_cAm hl hy.1 hy.2.1 (len - 1) 1 bw_fu 0 (by omega) (by omega) (by omega)
    rw [← l_0, ← l_1] at this
    exact this
  refine ⟨a, ?_⟩
  unfold f_X8_thickness
  rw [a, Option.bind_some, z_ib (by omega) (by omega), if_pos rfl, nI_clamp (by omega), hy.2.1 _ hz]
theorem z_mTk {M : Mem} {F : Nat → Int32} (hl : len ≤ 24) (h1 : 1 ≤ len) (hy : z_MY len m ln lg s F M) : f_X10_mostFull M = some (nI (z_am F (len - 1) 1 0)) ∧ z_am F (len - 1) 1 0 < len ∧ M 118 (z_am F (len - 1) 1 0) = F (z_am F (len - 1) 1 0) := by
  have hfu : 100 < bw_fu := by decide
  have hz := z_am_lt (F := F) (l := len) (len - 1) 1 0 (by omega) (by omega)
  have := z_mAm hl hy.1 hy.2.1 (len - 1) 1 bw_fu 0 (by omega) (by omega) (by omega)
  rw [← l_0, ← l_1] at this
  exact ⟨this, hz, hy.2.1 _ hz⟩
theorem z_CY_fr {M M' : Mem} {F : Nat → Int32} (hc : z_Cf M M') (h : ∀ k, 11 ≤ k → k ≤ 13 → M' k = M k) (hy : z_CY len ln la lg F M) : z_CY len ln la lg F M' := by
  obtain ⟨a1, a2, a3, a4, a5⟩ := hy
  refine ⟨by rw [h 11 (by omega) (by omega)]; exact a1, by rw [h 12 (by omega) (by omega)]; exact a2, by rw [h 13 (by omega) (by omega)]; exact a3, by rw [h 11 (by omega) (by omega)]; exact a4, fun u hu => z_LOK_fr hc (a5 u hu)⟩
/-- a year passes: the class -/
theorem z_cPass (hl : len ≤ 24) {y : Nat} (hy60 : y ≤ 60) (hla : ∀ p b, la p = some b → ln b < len) : ∀ r p fu (M : Mem) (F : Nat → Int32), p + r = 8 → r < fu → z_CY len ln la lg F M → ∃ M', f_X8_pass_L2 (nI y) fu (nI p) M = some M' ∧ z_CY len ln la lg (z_gr lg la ln y r p F) M' ∧ z_Cf M M' ∧ ∀ k, 1 ≤ k → k ≤ 24 → k ≠ 12 → M' k = M k := by
  intro r
  induction r with
  | zero =>
    intro p fu M F h1 h2 hy
    obtain ⟨fu, rfl⟩ : ∃ f, fu = f + 1 := ⟨fu - 1, by omega⟩
    refine ⟨M, ?_, hy, z_Cf_r M, fun _ _ _ _ => rfl⟩
    rw [f_X8_pass_L2, l_8, if_pos (nI_le (by omega) (by omega))]
  | succ r ih =>
    intro p fu M F h1 h2 hy
    obtain ⟨fu, rfl⟩ : ∃ f, fu = f + 1 := ⟨fu - 1, by omega⟩
    have hy' := hy
    obtain ⟨a1, a2, a3, a4, a5⟩ := hy
    have a3p := a3 p (by omega)
    rw [f_X8_pass_L2, l_8, if_neg (nI_ge (by omega) (by omega)), z_ib (by omega) (by omega), if_pos rfl, nI_clamp (by omega), a3p, a1, nI_1, z_gr]
    cases hp : la p with
    | none =>
      have : f_X9_isWithin (z_ga ln none) 0 (nI len - 1) = 0 := by
        unfold f_X9_isWithin; rw [if_pos (show z_ga ln none < 0 from (by decide : (-1 : Int32) < 0))]
      rw [this, if_pos rfl]
      exact ih (p + 1) fu M F (by omega) (by omega) hy'
    | some b =>
      have hb := hla p b hp
      have wi : f_X9_isWithin (nI (ln b)) 0 (nI len - 1) = 1 := by rw [z_wiM (by omega) (by omega), if_pos hb]
      rw [show z_ga ln (some b) = nI (ln b) from rfl, wi, if_neg (by decide), z_ib (by omega) (by omega), if_pos rfl, nI_clamp (by omega), a2 _ hb, a4]
      dsimp only
      have go : ∀ M1 : Mem, z_Cf M M1 → (∀ k, 1 ≤ k → k ≤ 24 → M1 k = M k) → ∀ v, v = z_gv lg p y → ∃ M', f_X8_pass_L2 (nI y) fu (nI (p + 1)) (bw_up M1 12 (ln b) (F (ln b) + v)) = some M' ∧ z_CY len ln la lg (z_gr lg la ln y r (p + 1) (z_upF F (ln b) (F (ln b) + z_gv lg p y))) M' ∧ z_Cf M M' ∧ ∀ k, 1 ≤ k → k ≤ 24 → k ≠ 12 → M' k = M k := by
        intro M1 hc1 hk1 v hv
        have o : ∀ b', b' ≠ 12 → bw_up M1 12 (ln b) (F (ln b) + v) b' = M1 b' := fun b' hb' => z_up_k _ _ _ _ hb'
        have cY : z_CY len ln la lg (z_upF F (ln b) (F (ln b) + z_gv lg p y)) (bw_up M1 12 (ln b) (F (ln b) + v)) := by
          refine ⟨by rw [o 11 (by omega), hk1 11 (by omega) (by omega)]; exact a1, ?_, by rw [o 13 (by omega), hk1 13 (by omega) (by omega)]; exact a3, by rw [o 11 (by omega), hk1 11 (by omega) (by omega)]; exact a4, fun u hu => z_LOK_fr (z_Cf_t hc1 (z_Cf_up (by omega))) (a5 u hu)⟩
          intro k hk
          unfold z_upF
          rw [z_up]
          by_cases e : k = ln b
          · simp [e, hv]
          · simp only [e, and_false, if_false]; rw [hk1 12 (by omega) (by omega)]; exact a2 k hk
        obtain ⟨M', f1, f2, f3, f4⟩ := ih (p + 1) fu _ _ (by omega) (by omega) cY
        exact ⟨M', f1, f2, z_Cf_t hc1 (z_Cf_t (z_Cf_up (by omega)) f3), fun k g1 g2 g3 => by rw [f4 k g1 g2 g3, o k g3, hk1 k g1 g2]⟩
      cases lg with
      | none =>
        rw [if_pos (show z_lwI none = 0 from rfl), z_ml]
        exact go M (z_Cf_r M) (fun _ _ _ => rfl) 1 rfl
      | some u =>
        have hu := a5 u rfl
        have ne : ¬ nI u.1 = 0 := nI_ne0 (by have := hu.2.1.1; omega) (by have := hu.2.1.2.1; omega)
        obtain ⟨M1, g1, g2, g3⟩ := z_givL (nI p) (nI y) 0 hu
        have lk : bw_lok M (nI u.1) = true := hu.2.2
        have fr1 : z_Cf M M1 := by
          refine ⟨fun b hb => g3 b (by rw [z_lcN2]; omega), fun c => ⟨g3 _ (by rw [z_lcN2]; omega), g3 _ (by rw [z_lcN2]; omega), ?_⟩⟩
          by_cases e : 131 + 3 * c = z_lcN u.1 + 2
          · rw [e]; exact g2
          · rw [g3 _ e]
        rw [if_neg (show ¬ z_lwI (some u) = 0 from ne), show z_lwI (some u) = nI u.1 from rfl, g1, Option.bind_some, lk, if_pos rfl, l_99, z_heldE (by omega), z_ml]
        exact go M1 fr1 (fun k _ h2 => g3 k (by rw [z_lcN2]; omega)) _ rfl
theorem z_MY_fr {M M' : Mem} {F : Nat → Int32} (h94 : M' 94 = M 94) (h17 : M' 93 17 = M 93 17) (h118 : M' 118 = M 118) (h106 : M' 106 = M 106) (hy : z_MY len m ln lg s F M) : z_MY len m ln lg s F M' := by
  obtain ⟨a1, a2, a3, a4, a5, a6, a7⟩ := hy
  exact ⟨by rw [h17]; exact a1, by rw [h118]; exact a2, by rw [h106]; exact a3, by intro i g1 g2; rw [h94]; exact a4 i g1 g2, a5, z_MLw_fr h94 a6, a7⟩
theorem z_mLb {M : Mem} {p : Nat} {v1 v2 : Int32} (hp : p < 8) (hm : m ≤ 24) (hM : z_MR M 94 s) (h4 : s 4 = m) (hB : ∀ i, i < m → s (16 + 4 * i) ≤ 7) : ∀ r i fu, i + r = m → r < fu → f_X10_growsIn_L20 M v1 v2 (nI p) fu (z_oI (z_lb s p i)) (nI i) = some (z_oI (z_lb s p m)) := by
  intro r
  induction r with
  | zero =>
    intro i fu h1 h2
    obtain ⟨fu, rfl⟩ : ∃ f, fu = f + 1 := ⟨fu - 1, by omega⟩
    rw [f_X10_growsIn_L20, z_c4, hM 4 (by omega) (by omega), if_pos (nI_le (by omega) (by omega)), show i = m by omega]
  | succ r ih =>
    intro i fu h1 h2
    obtain ⟨fu, rfl⟩ : ∃ f, fu = f + 1 := ⟨fu - 1, by omega⟩
    have b2 := hB i (by omega)
    have q2 : f_X10_book4 M (nI i) 2 = some (nI (s (16 + 4 * i))) := by
      have := z_b4 hM (j := i) (w := 2) (by omega) (by omega)
      rw [show 14 + 4 * i + 2 = 16 + 4 * i by omega] at this
      exact this
    rw [f_X10_growsIn_L20, z_c4, hM 4 (by omega) (by omega), if_neg (nI_ge (by omega) (by omega)), q2, Option.bind_some, nI_1]
    have e : (if nI (s (16 + 4 * i)) = nI p then nI i else z_oI (z_lb s p i)) = z_oI (z_lb s p (i + 1)) := by
      rw [z_lb]
      by_cases g : s (16 + 4 * i) = p
      · rw [if_pos g, if_pos (congrArg nI g)]; rfl
      · rw [if_neg g, if_neg (z_neI g (by omega) (by omega))]
    rw [e]; exact ih (i + 1) fu (by omega) (by omega)
/-- a year passes: the model -/
theorem z_mPass (hl : len ≤ 24) (hm : m ≤ 24) {y : Nat} (hy60 : y ≤ 60) (hB : ∀ i, i < m → s (16 + 4 * i) ≤ 7) (hln : ∀ b, b < m → ln b < len) {tq : Int32} {R : Nat → Int32} (htq : match lg with
    | none => tq = -1
    | some u => ∃ tx, tx < 14 ∧ tq = nI tx ∧ z_MT R tx u) : ∀ r p fu (M : Mem) (F : Nat → Int32), p + r = 8 → r < fu → M 94 = R → z_MY len m ln lg s F M → ∃ M', f_X10_growsIn_L8 (nI y) tq fu (nI p) M = some M' ∧ z_MY len m ln lg s (z_gr lg (fun p => z_lb s p m) ln y r p F) M' ∧ z_Mf M M' ∧ M' 93 = M 93 ∧ ∀ k, 96 ≤ k → k ≤ 119 → k ≠ 116 → k ≠ 117 → k ≠ 118 → M' k = M k := by
  have hfu : 100 < bw_fu := by decide
  intro r
  induction r with
  | zero =>
    intro p fu M F h1 h2 hR hy
    obtain ⟨fu, rfl⟩ : ∃ f, fu = f + 1 := ⟨fu - 1, by omega⟩
    refine ⟨M, ?_, hy, z_Mf_r M, rfl, fun _ _ _ _ _ _ => rfl⟩
    rw [f_X10_growsIn_L8, l_8, if_pos (nI_le (by omega) (by omega))]
  | succ r ih =>
    intro p fu M F h1 h2 hR hy
    obtain ⟨fu, rfl⟩ : ∃ f, fu = f + 1 := ⟨fu - 1, by omega⟩
    have hy' := hy
    obtain ⟨a1, a2, a3, a4, a5, a6, a7⟩ := hy
    have lb := z_mLb (v1 := nI y) (v2 := tq) (p := p) (by omega) hm a4 a5 hB m 0 bw_fu (by omega) (by omega)
    rw [show z_oI (z_lb s p 0) = -1 from rfl, show nI 0 = 0 from rfl] at lb
    rw [f_X10_growsIn_L8, l_8, if_neg (nI_ge (by omega) (by omega)), lb, Option.bind_some, nI_1, z_gr]
    cases hp : z_lb s p m with
    | none =>
      rw [if_pos (show z_oI none < 0 by decide)]
      exact ih (p + 1) fu M F (by omega) (by omega) hR hy'
    | some b =>
      have hb := z_lb_lt _ _ hp
      have hbl := hln b hb
      rw [if_neg (show ¬ z_oI (some b) < 0 from nI_pos (by omega)), z_ml, z_ml, show z_oI (some b) = nI b from rfl, z_ib (by omega) (by omega), if_pos rfl, nI_clamp (by omega)]
      obtain ⟨M9, hM9⟩ : ∃ M9, M9 = bw_up (bw_up M 117 0 (nI p)) 117 1 (nI y) := ⟨_, rfl⟩
      have o9 : ∀ k, k ≠ 117 → M9 k = M k := by intro k g1; rw [hM9, z_up_k _ _ _ _ g1, z_up_k _ _ _ _ g1]
      rw [show ((0 : Int32).toNatClampNeg) = 0 from rfl, show ((1 : Int32).toNatClampNeg) = 1 from rfl, ← hM9, o9 106 (by omega), a3 b hb, z_ib (by omega) (by omega), if_pos rfl, nI_clamp (by omega), o9 118 (by omega), a2 _ hbl]
      dsimp only
      have go : ∀ M1 : Mem, (∀ k, k ≠ 116 → k ≠ 117 → M1 k = M k) → ∀ v, v = z_gv lg p y → ∃ M', f_X10_growsIn_L8 (nI y) tq fu (nI (p + 1)) (bw_up M1 118 (ln b) (F (ln b) + v)) = some M' ∧ z_MY len m ln lg s (z_gr lg (fun p => z_lb s p m) ln y r (p + 1) (z_upF F (ln b) (F (ln b) + z_gv lg p y))) M' ∧ z_Mf M M' ∧ M' 93 = M 93 ∧ ∀ k, 96 ≤ k → k ≤ 119 → k ≠ 116 → k ≠ 117 → k ≠ 118 → M' k = M k := by
        intro M1 hk1 v hv
        have o : ∀ k, k ≠ 116 → k ≠ 117 → k ≠ 118 → bw_up M1 118 (ln b) (F (ln b) + v) k = M k := fun k g1 g2 g3 => by rw [z_up_k _ _ _ _ g3, hk1 k g1 g2]
        have mY : z_MY len m ln lg s (z_upF F (ln b) (F (ln b) + z_gv lg p y)) (bw_up M1 118 (ln b) (F (ln b) + v)) := by
          refine ⟨by rw [o 93 (by omega) (by omega) (by omega)]; exact a1, ?_, by rw [o 106 (by omega) (by omega) (by omega)]; exact a3, by intro i g1 g2; rw [o 94 (by omega) (by omega) (by omega)]; exact a4 i g1 g2, a5, z_MLw_fr (o 94 (by omega) (by omega) (by omega)) a6, a7⟩
          intro k hk
          unfold z_upF
          rw [z_up]
          by_cases e : k = ln b
          · simp [e, hv]
          · simp only [e, and_false, if_false]; rw [hk1 118 (by omega) (by omega)]; exact a2 k hk
        obtain ⟨M', f1, f2, f3, f4, f5⟩ := ih (p + 1) fu _ _ (by omega) (by omega) (by rw [o 94 (by omega) (by omega) (by omega)]; exact hR) mY
        refine ⟨M', f1, f2, z_Mf_t (z_Mf_b (fun k hk => o k (by omega) (by omega) (by omega))) f3, by rw [f4, o 93 (by omega) (by omega) (by omega)], fun k g1 g2 g3 g4 g5 => by rw [f5 k g1 g2 g3 g4 g5, o k g3 g4 g5]⟩
      cases lg with
      | none =>
        dsimp only at htq
        rw [htq] at go ⊢
        rw [if_neg (by decide), z_ml]
        exact go M9 (fun k _ g2 => o9 k g2) 1 rfl
      | some u =>
        obtain ⟨tx, t1, t2, t3⟩ := htq
        rw [t2] at go ⊢
        obtain ⟨M6, e1, e2⟩ := z_wrkT (M := M9) (t := tx) (u := u) (a := nI p) (b := nI y) (c := 0) t1 (by rw [o9 94 (by omega), hR]; exact t3) (by rw [hM9]; simp (disch := omega) only [z_up, if_pos, if_neg, ite_true, ite_false, and_self, and_true, true_and, and_false, false_and]) (by rw [hM9, z_up_s]) (by intro h0; have := a7 u rfl; omega)
        rw [if_pos (nI_pos' (by omega)), e1, Option.bind_some, l_99, z_withE (by omega), z_ml]
        exact go M6 (fun k g1 g2 => by rw [e2 k g1, o9 k g2]) _ rfl
theorem z_mGrow (hl : len ≤ 24) (hm : m ≤ 24) {y : Nat} (hy60 : y ≤ 60) (hB : ∀ i, i < m → s (16 + 4 * i) ≤ 7) (hln : ∀ b, b < m → ln b < len) {M : Mem} {F : Nat → Int32} (hy : z_MY len m ln lg s F M) : ∃ M', f_X10_growsIn M (nI y) = some M' ∧ z_MY len m ln lg s (z_gr lg (fun p => z_lb s p m) ln y 8 0 F) M' ∧ z_Mf M M' ∧ M' 93 = M 93 ∧ ∀ k, 96 ≤ k → k ≤ 119 → k ≠ 116 → k ≠ 117 → k ≠ 118 → M' k = M k := by
  have hfu : 100 < bw_fu := by decide
  have a6 := hy.2.2.2.2.2.1
  unfold f_X10_growsIn
  cases lg with
  | none =>
    rw [show f_X10_counts M 2 = some (-1) from a6, Option.bind_some, l_0]
    exact z_mPass (lg := none) (tq := -1) (R := M 94) hl hm hy60 hB hln rfl 8 0 bw_fu M F (by omega) (by omega) rfl hy
  | some u =>
    obtain ⟨tx, t1, t2, t3⟩ := a6
    rw [show f_X10_counts M 2 = some (nI tx) from t2, Option.bind_some, l_0]
    exact z_mPass (lg := some u) (tq := nI tx) (R := M 94) hl hm hy60 hB hln ⟨tx, t1, rfl, t3⟩ 8 0 bw_fu M F (by omega) (by omega) rfl hy
theorem z_cGrow (hl : len ≤ 24) {y : Nat} (hy60 : y ≤ 60) (hla : ∀ p b, la p = some b → ln b < len) {M : Mem} {F : Nat → Int32} (hy : z_CY len ln la lg F M) : ∃ M', f_X8_pass M (nI y) = some M' ∧ z_CY len ln la lg (z_gr lg la ln y 8 0 F) M' ∧ z_Cf M M' ∧ ∀ k, 1 ≤ k → k ≤ 24 → k ≠ 12 → M' k = M k := by
  have hfu : 100 < bw_fu := by decide
  unfold f_X8_pass
  rw [l_0]
  exact z_cPass hl hy60 hla 8 0 bw_fu M F (by omega) (by omega) hy
end
