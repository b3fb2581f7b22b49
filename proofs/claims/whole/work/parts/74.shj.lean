/-! level 2: shift, the model; both -/
def z_ct (m p b : Nat) : Nat := if b ≤ p then b else if b ≤ m then b + 1 else m + 1
def z_shT (p v3 : Int32) (M : Mem) : Option (Int32 × Mem) := (f_X10_parts M).bind fun q11 => bw_ml (bw_up q11.2 93 16 q11.1) fun M12 => (f_X10_tellsLines M12).bind fun q13 => (if v3 = 0 then some ((-1000000005 : Int32), q13) else (if 0 ≤ (q13 93 16) then f_X10_shift_L218 q13 p bw_fu (0 : Int32) (0 : Int32) else some ((-1000000005 : Int32), q13)))
section
variable {m p H T : Nat} {s : Nat → Nat} {v2 v3 : Int32}
theorem z_mIn1 {M0 : Mem} (hm : m < 24) (hp : p ≤ m) (h4 : s 4 = m) (hM : z_MR M0 94 s) (hd : ∀ j, j < m → z_sD s j ≤ 1) (g1 : v2 / 100 = nI H) (g2 : bw_rem v2 100 = nI T) : ∀ r b fu (M : Mem), b + r = m + 1 → r < fu → M 94 = M0 94 → M 93 7 = nI (z_ct m p b) → (∀ j, j < z_ct m p b → M 97 j = nI (z_iH (z_sH s) p H j) ∧ M 98 j = nI (z_iH (z_sT s) p T j) ∧ M 99 j = nI (z_iD (z_sD s) p j)) → ∃ M', f_X10_shift_L97 (nI p) v2 v3 fu (nI b) M = z_shT (nI p) v3 M' ∧ M' 93 7 = nI (m + 1) ∧ (∀ j, j < m + 1 → M' 97 j = nI (z_iH (z_sH s) p H j) ∧ M' 98 j = nI (z_iH (z_sT s) p T j) ∧ M' 99 j = nI (z_iD (z_sD s) p j)) ∧ (∀ x, x ≠ 7 → M' 93 x = M 93 x) ∧ ∀ k, k ≠ 93 → k ≠ 97 → k ≠ 98 → k ≠ 99 → M' k = M k := by
  intro r
  induction r with
  | zero =>
    intro b fu M h1 h2 h3 h5 h6
    obtain ⟨fu, rfl⟩ : ∃ f, fu = f + 1 := ⟨fu - 1, by omega⟩
    have cb : z_ct m p b = m + 1 := by unfold z_ct; rw [if_neg (by omega), if_neg (by omega)]
    rw [cb] at h5 h6
    refine ⟨M, ?_, h5, h6, fun _ _ => rfl, fun _ _ _ _ _ => rfl⟩
    rw [f_X10_shift_L97, z_c4, h3, hM 4 (by omega) (by omega), if_pos (nI_lt (by omega) (by omega))]
    rfl
  | succ r ih =>
    intro b fu M h1 h2 h3 h5 h6
    obtain ⟨fu, rfl⟩ : ∃ f, fu = f + 1 := ⟨fu - 1, by omega⟩
    -- one book more is taken
    have tk : ∀ (M : Mem) (k h t d : Nat), M 94 = M0 94 → M 93 7 = nI k → k < 25 → d ≤ 1 → (∀ j, j < k → M 97 j = nI (z_iH (z_sH s) p H j) ∧ M 98 j = nI (z_iH (z_sT s) p T j) ∧ M 99 j = nI (z_iD (z_sD s) p j)) → h = z_iH (z_sH s) p H k → t = z_iH (z_sT s) p T k → d = z_iD (z_sD s) p k → ∃ M1, f_X10_takesBook M (nI h) (nI t) (nI d) = some M1 ∧ M1 94 = M0 94 ∧ M1 93 7 = nI (k + 1) ∧ (∀ j, j < k + 1 → M1 97 j = nI (z_iH (z_sH s) p H j) ∧ M1 98 j = nI (z_iH (z_sT s) p T j) ∧ M1 99 j = nI (z_iD (z_sD s) p j)) ∧ (∀ x, x ≠ 7 → M1 93 x = M 93 x) ∧ ∀ k, k ≠ 93 → k ≠ 97 → k ≠ 98 → k ≠ 99 → M1 k = M k := by
      intro M k h t d a1 a2 a3 a4 a5 a6 a7 a8
      refine ⟨_, z_tkB a3 a2 a4, ?_, z_up_s _ _ _ _, ?_, ?_, ?_⟩
      · simp (disch := omega) only [z_up_k]; exact a1
      · intro j hj
        by_cases e : j = k
        · subst e
          rw [← a6, ← a7, ← a8]
          simp (disch := omega) only [z_up, if_pos, if_neg, ite_true, ite_false, and_self, and_true, true_and, and_false, false_and]
        · have := a5 j (by omega)
          simp (disch := omega) only [z_up, if_pos, if_neg, ite_true, ite_false, and_self, and_true, true_and, and_false, false_and]; exact this
      · intro x hx; rw [z_up_i _ _ _ _ hx]; simp (disch := omega) only [z_up_k]
      · intro x b1 b2 b3 b4; rw [z_up_k _ _ _ _ b1, z_up_k _ _ _ _ b4, z_up_k _ _ _ _ b3, z_up_k _ _ _ _ b2]
    have bk : ∀ M : Mem, M 94 = M0 94 → b < m → f_X10_book4 M (nI b) 0 = some (nI (z_sH s b)) ∧ f_X10_book4 M (nI b) 1 = some (nI (z_sT s b)) ∧ f_X10_book4 M (nI b) 3 = some (nI (z_sD s b)) := by
      intro M a1 a2
      have hMM : z_MR M 94 s := by intro k c1 c2; rw [a1]; exact hM k c1 c2
      refine ⟨z_b4 hMM (j := b) (w := 0) (by omega) (by omega), ?_, ?_⟩
      · have := z_b4 hMM (j := b) (w := 1) (by omega) (by omega)
        rw [show 14 + 4 * b + 1 = 15 + 4 * b by omega] at this
        exact this
      · have := z_b4 hMM (j := b) (w := 3) (by omega) (by omega)
        rw [show 14 + 4 * b + 3 = 17 + 4 * b by omega] at this
        exact this
    have dE : b < m → (if nI (z_sD s b) = 1 then (if nI b = nI p - 1 then (0 : Int32) else 1) else 0) = nI (if b + 1 = p then 0 else z_sD s b) := by
      intro hbm
      have d1 := hd b hbm
      by_cases c1 : b + 1 = p
      · rw [if_pos c1, if_pos (show nI b = nI p - 1 by rw [← c1, nI_pred])]
        split <;> rfl
      · have ne : ¬ nI b = nI p - 1 := by
          intro e
          by_cases p0 : p = 0
          · have e2 := congrArg Int32.toInt e
            rw [p0, nI_toInt (by omega), show (nI 0 - 1 : Int32).toInt = -1 by decide] at e2
            omega
          · rw [show nI p - 1 = nI (p - 1) from pk_sub (b := 1) (by omega), nI_eq (by omega) (by omega)] at e
            omega
        rw [if_neg c1, if_neg ne]
        rcases (by omega : z_sD s b = 0 ∨ z_sD s b = 1) with e | e <;> rw [e] <;> rfl
    rw [f_X10_shift_L97, z_c4, h3, hM 4 (by omega) (by omega), if_neg (nI_nlt (by omega) (by omega)), g1, g2, nI_1]
    by_cases gp : b = p
    · have cb : z_ct m p b = b := by unfold z_ct; rw [if_pos (by omega)]
      rw [cb] at h5 h6
      obtain ⟨M1, t1, t2, t3, t4, t5, t6⟩ := tk M b H T 0 h3 h5 (by omega) (by omega) h6 (by unfold z_iH; rw [if_pos gp]) (by unfold z_iH; rw [if_pos gp]) (by unfold z_iD; rw [if_pos (Or.inl gp)])
      rw [show nI 0 = 0 from rfl] at t1
      rw [if_pos (congrArg nI gp), t1, Option.bind_some, t2, hM 4 (by omega) (by omega)]
      by_cases gm : b = m
      · have cb1 : z_ct m p (b + 1) = b + 1 := by unfold z_ct; rw [if_neg (by omega), if_neg (by omega)]; omega
        rw [if_pos (nI_le (by omega) (by omega))]
        obtain ⟨M', e1, e2, e3, e4, e5⟩ := ih (b + 1) fu M1 (by omega) (by omega) t2 (by rw [cb1]; exact t3) (by rw [cb1]; exact t4)
        exact ⟨M', e1, e2, e3, fun x hx => by rw [e4 x hx, t5 x hx], fun k a1 a2 a3 a4 => by rw [e5 k a1 a2 a3 a4, t6 k a1 a2 a3 a4]⟩
      · have cb1 : z_ct m p (b + 1) = b + 1 + 1 := by unfold z_ct; rw [if_neg (by omega), if_pos (by omega)]
        obtain ⟨k1, k2, k3⟩ := bk M1 t2 (by omega)
        have d1 := hd b (by omega)
        obtain ⟨M2, u1, u2, u3, u4, u5, u6⟩ := tk M1 (b + 1) (z_sH s b) (z_sT s b) (if b + 1 = p then 0 else z_sD s b) t2 t3 (by omega) (by split <;> omega) t4 (by unfold z_iH; rw [if_neg (by omega), if_pos (by omega), show b + 1 - 1 = b by omega]) (by unfold z_iH; rw [if_neg (by omega), if_pos (by omega), show b + 1 - 1 = b by omega]) (by unfold z_iD; rw [if_neg (by omega), if_neg (by omega), if_pos (by omega), show b + 1 - 1 = b by omega])
        rw [if_neg (nI_ge (by omega) (by omega)), k1, Option.bind_some, k2, Option.bind_some, k3, Option.bind_some, dE (by omega), u1, Option.bind_some]
        obtain ⟨M', e1, e2, e3, e4, e5⟩ := ih (b + 1) fu M2 (by omega) (by omega) u2 (by rw [cb1]; exact u3) (by rw [cb1]; exact u4)
        exact ⟨M', e1, e2, e3, fun x hx => by rw [e4 x hx, u5 x hx, t5 x hx], fun k a1 a2 a3 a4 => by rw [e5 k a1 a2 a3 a4, u6 k a1 a2 a3 a4, t6 k a1 a2 a3 a4]⟩
    · rw [if_neg (z_neI gp (by omega) (by omega))]
      by_cases gm : b = m
      · have cb : z_ct m p b = m + 1 := by unfold z_ct; rw [if_neg (by omega), if_pos (by omega)]; omega
        have cb1 : z_ct m p (b + 1) = m + 1 := by unfold z_ct; rw [if_neg (by omega), if_neg (by omega)]
        rw [cb] at h5 h6
        rw [if_pos (nI_le (by omega) (by omega))]
        exact ih (b + 1) fu M (by omega) (by omega) h3 (by rw [cb1]; exact h5) (by rw [cb1]; exact h6)
      · obtain ⟨k1, k2, k3⟩ := bk M h3 (by omega)
        have d1 := hd b (by omega)
        have cl : z_ct m p b < 25 := by unfold z_ct; split <;> (try split) <;> omega
        have cb1 : z_ct m p (b + 1) = z_ct m p b + 1 := by
          unfold z_ct
          by_cases q : b ≤ p
          · rw [if_pos q, if_pos (by omega)]
          · rw [if_neg q, if_neg (by omega), if_pos (by omega), if_pos (by omega)]
        have hv : z_sH s b = z_iH (z_sH s) p H (z_ct m p b) ∧ z_sT s b = z_iH (z_sT s) p T (z_ct m p b) ∧ (if b + 1 = p then 0 else z_sD s b) = z_iD (z_sD s) p (z_ct m p b) := by
          unfold z_ct z_iH z_iD
          by_cases q : b ≤ p
          · rw [if_pos q, if_neg gp, if_neg (by omega), if_neg gp, if_neg (by omega)]
            refine ⟨rfl, rfl, ?_⟩
            by_cases q2 : b + 1 = p
            · rw [if_pos q2, if_pos (Or.inr q2)]
            · rw [if_neg q2, if_neg (by omega), if_neg (by omega)]
          · rw [if_neg q, if_pos (show b ≤ m by omega), if_neg (by omega), if_pos (by omega), if_neg (by omega), if_pos (by omega), if_neg (by omega), if_neg (by omega), if_pos (by omega), show b + 1 - 1 = b by omega]
            exact ⟨rfl, rfl, rfl⟩
        obtain ⟨M2, u1, u2, u3, u4, u5, u6⟩ := tk M (z_ct m p b) (z_sH s b) (z_sT s b) (if b + 1 = p then 0 else z_sD s b) h3 h5 cl (by split <;> omega) h6 hv.1 hv.2.1 hv.2.2
        rw [if_neg (nI_ge (by omega) (by omega)), k1, Option.bind_some, k2, Option.bind_some, k3, Option.bind_some, dE (by omega), u1, Option.bind_some]
        obtain ⟨M', e1, e2, e3, e4, e5⟩ := ih (b + 1) fu M2 (by omega) (by omega) u2 (by rw [cb1]; exact u3) (by rw [cb1]; exact u4)
        exact ⟨M', e1, e2, e3, fun x hx => by rw [e4 x hx, u5 x hx], fun k a1 a2 a3 a4 => by rw [e5 k a1 a2 a3 a4, u6 k a1 a2 a3 a4]⟩
theorem z_mWe {M0 : Mem} {w1 : Int32} (hm : m < 24) (h4 : M0 94 4 = nI m) : ∀ r i fu (M : Mem), i + r = m → r < fu → M 94 = M0 94 → M 106 = M0 106 → (∀ j, j < i → M 119 j = M0 106 j) → ∃ M', f_X10_shift_L58 w1 v2 v3 fu (nI i) M = f_X10_shift_L97 w1 v2 v3 bw_fu 0 (bw_up M' 93 7 0) ∧ (∀ j, j < m → M' 119 j = M0 106 j) ∧ ∀ k, k ≠ 119 → M' k = M k := by
  intro r
  induction r with
  | zero =>
    intro i fu M h1 h2 h3 h5 h6
    obtain ⟨fu, rfl⟩ : ∃ f, fu = f + 1 := ⟨fu - 1, by omega⟩
    refine ⟨M, ?_, fun j hj => h6 j (by omega), fun _ _ => rfl⟩
    rw [f_X10_shift_L58, z_c4, h3, h4, if_pos (nI_le (by omega) (by omega)), z_ml]
  | succ r ih =>
    intro i fu M h1 h2 h3 h5 h6
    obtain ⟨fu, rfl⟩ : ∃ f, fu = f + 1 := ⟨fu - 1, by omega⟩
    have o : ∀ k, k ≠ 119 → bw_up M 119 i (M 106 i) k = M k := fun k hk => z_up_k _ _ _ _ hk
    obtain ⟨M', e1, e2, e3⟩ := ih (i + 1) fu (bw_up M 119 i (M 106 i)) (by omega) (by omega) (by rw [o 94 (by omega)]; exact h3) (by rw [o 106 (by omega)]; exact h5) (by
      intro j hj
      by_cases e : j = i
      · rw [e, z_up_s, h5]
      · rw [z_up_i _ _ _ _ e]; exact h6 j (by omega))
    refine ⟨M', ?_, e2, fun k hk => by rw [e3 k hk, o k hk]⟩
    rw [f_X10_shift_L58, z_c4, h3, h4, if_neg (nI_ge (by omega) (by omega)), z_ib (by omega) (by omega), if_pos rfl, nI_clamp (by omega), z_ml, nI_1]
    exact e1
def z_mv (ln ln' : Nat → Nat) (p : Nat) : Nat → Nat → Nat → Nat
  | 0, _, a => a
  | r + 1, b, a => z_mv ln ln' p r (b + 1) (if ln' (if p ≤ b then b + 1 else b) = ln b then a else a + 1)
theorem z_cMv {ln ln' : Nat → Nat} {M : Mem} (hm : m < 24) (hp : p ≤ m) (h0 : M 25 0 = nI m) (h24 : ∀ b, b < m → M 24 b = nI (ln b) ∧ ln b < 25) (hlo : ∀ b, b < m + 1 → f_X2_lineOf M (nI b) = some (nI (ln' b)) ∧ ln' b < 25) : ∀ r b fu a, b + r = m → r < fu → f_X9_moved_L4 M (nI p) fu (nI a) (nI b) = some (nI (z_mv ln ln' p r b a)) := by
  intro r
  induction r with
  | zero =>
    intro b fu a h1 h2
    obtain ⟨fu, rfl⟩ : ∃ f, fu = f + 1 := ⟨fu - 1, by omega⟩
    rw [f_X9_moved_L4, h0, if_pos (nI_le (by omega) (by omega))]; rfl
  | succ r ih =>
    intro b fu a h1 h2
    obtain ⟨fu, rfl⟩ : ∃ f, fu = f + 1 := ⟨fu - 1, by omega⟩
    have bE : (if nI p ≤ nI b then nI b + 1 else nI b) = nI (if p ≤ b then b + 1 else b) := by
      by_cases g : p ≤ b
      · rw [if_pos (nI_le g (by omega)), if_pos g, nI_1]
      · rw [if_neg (nI_ge (by omega) (by omega)), if_neg g]
    have hb' : (if p ≤ b then b + 1 else b) < m + 1 := by split <;> omega
    obtain ⟨x1, x2⟩ := hlo _ hb'
    obtain ⟨y1, y2⟩ := h24 b (by omega)
    rw [f_X9_moved_L4, h0, if_neg (nI_ge (by omega) (by omega)), bE, z_ml, x1, Option.bind_some, z_ib (by omega) (by omega), if_pos rfl, nI_clamp (by omega), y1, nI_1, nI_1, z_mv]
    by_cases g : ln' (if p ≤ b then b + 1 else b) = ln b
    · rw [if_pos (congrArg nI g), if_pos g]; exact ih (b + 1) fu a (by omega) (by omega)
    · rw [if_neg (z_neI g (by omega) (by omega)), if_neg g]; exact ih (b + 1) fu (a + 1) (by omega) (by omega)
theorem z_mMv {ln ln' : Nat → Nat} {M : Mem} (hm : m < 24) (hp : p ≤ m) (h4 : M 94 4 = nI m) (h24 : ∀ b, b < m → M 119 b = nI (ln b) ∧ ln b < 25) (hlo : ∀ b, b < m + 1 → M 106 b = nI (ln' b) ∧ ln' b < 25) : ∀ r b fu a, b + r = m → r < fu → f_X10_shift_L218 M (nI p) fu (nI a) (nI b) = some (nI (z_mv ln ln' p r b a), M) := by
  intro r
  induction r with
  | zero =>
    intro b fu a h1 h2
    obtain ⟨fu, rfl⟩ : ∃ f, fu = f + 1 := ⟨fu - 1, by omega⟩
    rw [f_X10_shift_L218, z_c4, h4, if_pos (nI_le (by omega) (by omega))]; rfl
  | succ r ih =>
    intro b fu a h1 h2
    obtain ⟨fu, rfl⟩ : ∃ f, fu = f + 1 := ⟨fu - 1, by omega⟩
    have bE : (if nI p ≤ nI b then nI b + 1 else nI b) = nI (if p ≤ b then b + 1 else b) := by
      by_cases g : p ≤ b
      · rw [if_pos (nI_le g (by omega)), if_pos g, nI_1]
      · rw [if_neg (nI_ge (by omega) (by omega)), if_neg g]
    have hb' : (if p ≤ b then b + 1 else b) < m + 1 := by split <;> omega
    obtain ⟨x1, x2⟩ := hlo _ hb'
    obtain ⟨y1, y2⟩ := h24 b (by omega)
    rw [f_X10_shift_L218, z_c4, h4, if_neg (nI_ge (by omega) (by omega)), z_ib (by omega) (by omega), if_pos rfl, bE, z_ib (by omega) (by omega), if_pos rfl, nI_clamp (by omega), nI_clamp (by omega), x1, y1, z_ml, nI_1, z_mv]
    by_cases g : ln' (if p ≤ b then b + 1 else b) = ln b
    · rw [if_pos (congrArg nI g.symm), if_pos g, Int32.add_zero]; exact ih (b + 1) fu a (by omega) (by omega)
    · rw [if_neg (z_neI (fun h => g h.symm) (by omega) (by omega)), if_neg g, nI_1]; exact ih (b + 1) fu (a + 1) (by omega) (by omega)
theorem z_cWe {ln : Nat → Nat} {M0 : Mem} {w1 w2 : Int32} (hm : m < 24) (h0 : M0 25 0 = nI m) (hlo : ∀ M' : Mem, M' 1 = M0 1 → M' 9 = M0 9 → ∀ b, b < m → f_X2_lineOf M' (nI b) = some (nI (ln b))) : ∀ r i fu (M : Mem), i + r = m → r < fu → (∀ k, k ≠ 24 → M k = M0 k) → (∀ j, j < i → M 24 j = nI (ln j)) → ∃ M', f_X9_shift_L62 w1 w2 fu (nI i) M = ((f_X2_insert M' w1 (w2 / (100 : Int32)) (bw_rem w2 (100 : Int32))).bind fun q11 => (f_X2_settle q11).bind fun q12 => (if q12.1 = 0 then some ((-1000000005 : Int32), q12.2) else (f_X9_moved q12.2 w1).bind fun q15 => some (q15, q12.2))) ∧ (∀ j, j < m → M' 24 j = nI (ln j)) ∧ ∀ k, k ≠ 24 → M' k = M0 k := by
  intro r
  induction r with
  | zero =>
    intro i fu M h1 h2 h3 h4
    obtain ⟨fu, rfl⟩ : ∃ f, fu = f + 1 := ⟨fu - 1, by omega⟩
    refine ⟨M, ?_, fun j hj => h4 j (by omega), h3⟩
    rw [f_X9_shift_L62, h3 25 (by omega), h0, if_pos (nI_le (by omega) (by omega))]
  | succ r ih =>
    intro i fu M h1 h2 h3 h4
    obtain ⟨fu, rfl⟩ : ∃ f, fu = f + 1 := ⟨fu - 1, by omega⟩
    obtain ⟨M', e1, e2, e3⟩ := ih (i + 1) fu (bw_up M 24 i (nI (ln i))) (by omega) (by omega) (fun k hk => by rw [z_up_k _ _ _ _ hk]; exact h3 k hk) (by
      intro j hj
      by_cases e : j = i
      · rw [e, z_up_s]
      · rw [z_up_i _ _ _ _ e]; exact h4 j (by omega))
    refine ⟨M', ?_, e2, e3⟩
    rw [f_X9_shift_L62, h3 25 (by omega), h0, if_neg (nI_ge (by omega) (by omega)), hlo M (h3 1 (by omega)) (h3 9 (by omega)) i (by omega), Option.bind_some, z_ib (by omega) (by omega), if_pos rfl, nI_clamp (by omega), z_ml, nI_1]
    exact e1
end
