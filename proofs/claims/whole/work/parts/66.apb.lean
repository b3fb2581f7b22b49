/-! level 2: apart, the model's part; walks -/
theorem z_mkL {s : Nat → Nat} {t m : Nat} {b : Bool} {M0 : Mem} (ht : t ≤ 100) (hm : m ≤ 24) (h4 : s 4 = m) (hM : z_MR M0 94 s) (hB : ∀ i, i < m → z_sH s i ≤ 99) : ∀ r i fu (M : Mem), i + r = m → r < fu → M 94 = M0 94 → M 93 7 = nI (z_ki (z_pb s t b) i).length → (∀ k, k < (z_ki (z_pb s t b) i).length → M 97 k = nI (z_kH s (z_ki (z_pb s t b) i) k) ∧ M 98 k = nI (z_kT s (z_ki (z_pb s t b) i) k) ∧ M 99 k = nI 0) → ∃ M', f_X10_settleSome_L7 (nI t) (if b = true then 1 else 0) fu (nI i) M = ((f_X10_parts M').bind fun q3 => some (q3.1, q3.2)) ∧ M' 93 7 = nI (z_ki (z_pb s t b) m).length ∧ (∀ k, k < (z_ki (z_pb s t b) m).length → M' 97 k = nI (z_kH s (z_ki (z_pb s t b) m) k) ∧ M' 98 k = nI (z_kT s (z_ki (z_pb s t b) m) k) ∧ M' 99 k = nI 0) ∧ (∀ x, x ≠ 7 → M' 93 x = M 93 x) ∧ ∀ b', b' ≠ 93 → b' ≠ 97 → b' ≠ 98 → b' ≠ 99 → M' b' = M b' := by
  intro r
  induction r with
  | zero =>
    intro i fu M h1 h2 h3 h5 h6
    obtain ⟨fu, rfl⟩ : ∃ f, fu = f + 1 := ⟨fu - 1, by omega⟩
    have : i = m := by omega
    subst this
    refine ⟨M, ?_, h5, h6, fun _ _ => rfl, fun _ _ _ _ _ => rfl⟩
    rw [f_X10_settleSome_L7, z_c4, h3, hM 4 (by omega) (by omega), if_pos (nI_le (by omega) (by omega))]
  | succ r ih =>
    intro i fu M h1 h2 h3 h5 h6
    obtain ⟨fu, rfl⟩ : ∃ f, fu = f + 1 := ⟨fu - 1, by omega⟩
    have x3 := hB i (by omega)
    have kl := z_ki_len (z_pb s t b) i
    have hMM : z_MR M 94 s := by intro k g1 g2; rw [h3]; exact hM k g1 g2
    have q0 : f_X10_book4 M (nI i) 0 = some (nI (z_sH s i)) := z_b4 hMM (j := i) (w := 0) (by omega) (by omega)
    have q1 : f_X10_book4 M (nI i) 1 = some (nI (z_sT s i)) := by
      have := z_b4 hMM (j := i) (w := 1) (by omega) (by omega)
      rw [show 14 + 4 * i + 1 = 15 + 4 * i by omega] at this
      exact this
    have cond : ((if nI (z_sH s i) < nI t then (0 : Int32) else 1) = (if b = true then 1 else 0)) ↔ z_pb s t b i = true := by
      unfold z_pb
      by_cases g : t ≤ z_sH s i
      · rw [if_neg (nI_nlt g (by omega))]
        cases b <;> simp [g]
      · rw [if_pos (nI_lt (by omega) (by omega))]
        cases b <;> simp [g]
    rw [f_X10_settleSome_L7, z_c4, h3, hM 4 (by omega) (by omega), if_neg (nI_ge (by omega) (by omega)), q0, Option.bind_some, nI_1]
    by_cases g : z_pb s t b i = true
    · rw [if_pos (cond.mpr g)]
      obtain ⟨M1, hM1⟩ : ∃ M1, M1 = bw_up (bw_up (bw_up (bw_up M 97 (z_ki (z_pb s t b) i).length (nI (z_sH s i))) 98 (z_ki (z_pb s t b) i).length (nI (z_sT s i))) 99 (z_ki (z_pb s t b) i).length (nI 0)) 93 7 (nI ((z_ki (z_pb s t b) i).length + 1)) := ⟨_, rfl⟩
      have o : ∀ b', b' ≠ 93 → b' ≠ 97 → b' ≠ 98 → b' ≠ 99 → M1 b' = M b' := by intro b' g1 g2 g3 g4; rw [hM1, z_up_k _ _ _ _ g1, z_up_k _ _ _ _ g4, z_up_k _ _ _ _ g3, z_up_k _ _ _ _ g2]
      have o1 : ∀ x, x ≠ 7 → M1 93 x = M 93 x := by intro x hx; rw [hM1, z_up_i _ _ _ _ hx]; simp (disch := omega) only [z_up_k]
      have kl1 : (z_ki (z_pb s t b) (i + 1)).length = (z_ki (z_pb s t b) i).length + 1 := by rw [z_ki, if_pos g]; simp
      obtain ⟨M', e1, e2, e3, e4, e5⟩ := ih (i + 1) fu M1 (by omega) (by omega) (by rw [o 94 (by omega) (by omega) (by omega) (by omega)]; exact h3) (by rw [hM1, z_up_s, kl1]) (by
        intro k hk
        have q1 := z_kGet g (z_sH s) k hk
        have q2 := z_kGet g (z_sT s) k hk
        unfold z_kH z_kT
        rw [q1, q2, hM1]
        by_cases e : k = (z_ki (z_pb s t b) i).length
        · subst e
          simp (disch := omega) only [z_up, if_pos, if_neg, ite_true, ite_false, and_self, and_true, true_and, and_false, false_and]
        · have := h6 k (by omega)
          simp (disch := omega) only [z_up, if_pos, if_neg, ite_true, ite_false, and_self, and_true, true_and, and_false, false_and]; exact this)
      refine ⟨M', ?_, e2, e3, fun x hx => by rw [e4 x hx, o1 x hx], fun b' g1 g2 g3 g4 => by rw [e5 b' g1 g2 g3 g4, o b' g1 g2 g3 g4]⟩
      have tb := z_tkB (M := M) (h := z_sH s i) (t := z_sT s i) (b := 0) (k := (z_ki (z_pb s t b) i).length) (by omega) h5 (by omega)
      rw [show nI 0 = 0 from rfl] at tb hM1
      rw [q1, Option.bind_some, Option.bind_some, tb, Option.bind_some, ← hM1]
      exact e1
    · rw [if_neg (fun h => g (cond.mp h))]
      have kl1 : z_ki (z_pb s t b) (i + 1) = z_ki (z_pb s t b) i := by rw [z_ki, if_neg g]
      exact ih (i + 1) fu M (by omega) (by omega) h3 (by rw [kl1]; exact h5) (by rw [kl1]; exact h6)
def z_V0 (s : Nat → Nat) (lw : Option TU) (K : List Nat) : Option Nat := (z_out K.length (s 1) (z_kH s K) (z_kT s K) (fun _ => 0) (z_sf (z_sA s) (s 7)) (z_P lw (s 2)) K.length).1 0
theorem z_V0B {s : Nat → Nat} {lw : Option TU} {t : Nat} {b : Bool} (hW : z_W s) : ∀ q, z_V0 s lw (z_ki (z_pb s t b) (s 4)) = some q → q ≤ 9999 * 24 := by
  intro q hq
  obtain ⟨b1, b2, b3, b4, b5, b6⟩ := z_kBd (t := t) (b := b) hW
  have := z_outB _ (s 1) (z_kH s (z_ki (z_pb s t b) (s 4))) (z_kT s (z_ki (z_pb s t b) (s 4))) (fun _ => 0) (z_sf (z_sA s) (s 7)) (z_P lw (s 2)) (fun a b ha => z_P_le b3 ha) (fun a ha => z_sf_le (fun k hk => (b6 k hk).2) ha) (fun j hj => (b5 j hj).2.1) _ (Nat.le_refl _) 0 q hq
  omega
/-- the model: some books by themselves -/
theorem z_mSome {s : Nat → Nat} {t m' q0 : Nat} {b : Bool} {M : Mem} {h' t' d' : Nat → Nat} {lw : Option TU} (ht : t ≤ 100) (hW : z_W s) (hM : z_MR M 94 s) (hp : z_Mp m' (s 1) (s 2) (s 7) h' t' d' (z_sA s) lw q0 M) : ∃ M', f_X10_settleSome M (nI t) (if b = true then 1 else 0) = some (z_oI (z_V0 s lw (z_ki (z_pb s t b) (s 4))), M') ∧ (∃ m2 h2 t2 d2, z_Mp m2 (s 1) (s 2) (s 7) h2 t2 d2 (z_sA s) lw q0 M') ∧ z_Mf M M' := by
  have hfu : 100 < bw_fu := by decide
  have w1 : s 4 ≤ 24 := hW.1.1
  obtain ⟨M1, e1, e2, e3, e4, e5⟩ := z_mkL (s := s) (t := t) (m := s 4) (b := b) (M0 := M) ht w1 rfl hM (fun i hi => (hW.2.1 i hi).2.1) (s 4) 0 bw_fu (bw_up M 93 7 (nI 0)) (by omega) (by omega) (z_up_k _ _ _ _ (by omega)) (by rw [z_up_s]; rfl) (fun k hk => by simp [z_ki] at hk)
  have o : ∀ b', b' ≠ 93 → b' ≠ 97 → b' ≠ 98 → b' ≠ 99 → M1 b' = M b' := by intro b' g1 g2 g3 g4; rw [e5 b' g1 g2 g3 g4, z_up_k _ _ _ _ g1]
  have r1 : ∀ x, x ≠ 7 → M1 93 x = M 93 x := by intro x hx; rw [e4 x hx, z_up_i _ _ _ _ hx]
  have h94 := o 94 (by omega) (by omega) (by omega) (by omega)
  have mf : z_Mf M M1 := ⟨fun b' hb' => o b' (by omega) (by omega) (by omega) (by omega), r1 _ (by omega), r1 _ (by omega), r1 _ (by omega)⟩
  obtain ⟨p1, p2, p3, p4, p5, p6, p7, p8, p9⟩ := hp
  have mp1 : z_Mp (z_ki (z_pb s t b) (s 4)).length (s 1) (s 2) (s 7) (z_kH s (z_ki (z_pb s t b) (s 4))) (z_kT s (z_ki (z_pb s t b) (s 4))) (fun _ => 0) (z_sA s) lw q0 M1 := ⟨e2, by rw [r1 8 (by omega)]; exact p2, by rw [h94]; exact p3, by rw [r1 10 (by omega)]; exact p4, e3, by rw [o 100 (by omega) (by omega) (by omega) (by omega)]; exact p6, z_MLw_fr h94 p7, ⟨p8.1, by rw [r1 13 (by omega)]; exact p8.2⟩, by rw [o 101 (by omega) (by omega) (by omega) (by omega), o 102 (by omega) (by omega) (by omega) (by omega)]; exact p9⟩
  obtain ⟨M2, f1, f2, f3, f4, f5, f6⟩ := z_mLst (z_kBd hW) mp1
  refine ⟨M2, ?_, ⟨_, _, _, _, f2⟩, z_Mf_t mf f3⟩
  unfold f_X10_settleSome
  rw [show nI 0 = 0 from rfl] at e1
  rw [z_ml, e1, f1]
  rfl
/-- what the walks cost -/
def z_wv (lk : Option TU) (s : Nat → Nat) (i : Nat) : Nat := match lk with
  | none => 5
  | some u => z_cl 999 (z_val (nI (z_sH s i)) (nI (s (16 + 4 * i))) 0 u.2.2)
theorem z_wv_le (lk : Option TU) (s : Nat → Nat) (i : Nat) : z_wv lk s i ≤ 999 := by
  unfold z_wv
  cases lk with
  | none => simp only; omega
  | some u => exact z_cl_le _ _
def z_wS (lk : Option TU) (s : Nat → Nat) (t : Nat) : Nat → Nat
  | 0 => 0
  | i + 1 => z_wS lk s t i + (if t ≤ z_sH s i then z_wv lk s i else 0)
theorem z_wS_le (lk : Option TU) (s : Nat → Nat) (t : Nat) : ∀ i, z_wS lk s t i ≤ 999 * i := by
  intro i
  induction i with
  | zero => simp [z_wS]
  | succ i ih => rw [z_wS]; have := z_wv_le lk s i; split <;> omega
theorem z_cW {s : Nat → Nat} {t m : Nat} {lk : Option TU} {M0 : Mem} (ht : t ≤ 100) (hm : m ≤ 24) (h0 : M0 25 0 = nI m) (hB : ∀ i, i < m → M0 26 i = nI (z_sH s i) ∧ M0 28 i = nI (s (16 + 4 * i)) ∧ z_sH s i ≤ 99) (hk : ∀ v, lk = some v → z_LOK M0 v) : ∀ r i fu (M : Mem), i + r = m → r < fu → z_Cf M0 M → ∃ M', f_X6_walks_L11 25 (nI t) (z_lwI lk) fu (nI (z_wS lk s t i)) (nI i) M = some (nI (z_wS lk s t m), M') ∧ z_Cf M0 M' ∧ ∀ k, 1 ≤ k → k ≤ 24 → M' k = M k := by
  intro r
  induction r with
  | zero =>
    intro i fu M h1 h2 h3
    obtain ⟨fu, rfl⟩ : ∃ f, fu = f + 1 := ⟨fu - 1, by omega⟩
    refine ⟨M, ?_, h3, fun _ _ _ => rfl⟩
    rw [f_X6_walks_L11, h3.1 25 (by omega), h0, if_pos (nI_le (by omega) (by omega)), show i = m by omega]
  | succ r ih =>
    intro i fu M h1 h2 h3
    obtain ⟨fu, rfl⟩ : ∃ f, fu = f + 1 := ⟨fu - 1, by omega⟩
    obtain ⟨x1, x2, x3⟩ := hB i (by omega)
    rw [f_X6_walks_L11, h3.1 25 (by omega), h0, if_neg (nI_ge (by omega) (by omega)), z_ib (by omega) (by omega), if_pos rfl, nI_clamp (by omega), show 25 + 1 = 26 from rfl, show 25 + 3 = 28 from rfl, h3.1 26 (by omega), h3.1 28 (by omega), x1, x2, nI_1]
    by_cases g : t ≤ z_sH s i
    · rw [if_neg (nI_nlt g (by omega))]
      have eS : z_wS lk s t (i + 1) = z_wS lk s t i + z_wv lk s i := by rw [z_wS, if_pos g]
      cases lk with
      | none =>
        rw [if_pos (show z_lwI none = 0 from rfl), l_5, nI_add]
        have := ih (i + 1) fu M (by omega) (by omega) h3
        rw [eS] at this
        exact this
      | some v =>
        have hv := z_LOK_fr h3 (hk v rfl)
        have ne : ¬ nI v.1 = 0 := nI_ne0 (by have := hv.2.1.1; omega) (by have := hv.2.1.2.1; omega)
        obtain ⟨M1, g1, g2, g3⟩ := z_givL (nI (z_sH s i)) (nI (s (16 + 4 * i))) 0 hv
        have fr1 : z_Cf M M1 := by
          refine ⟨fun b hb => g3 b (by rw [z_lcN2]; omega), fun c => ⟨g3 _ (by rw [z_lcN2]; omega), g3 _ (by rw [z_lcN2]; omega), ?_⟩⟩
          by_cases e : 131 + 3 * c = z_lcN v.1 + 2
          · rw [e]; exact g2
          · rw [g3 _ e]
        rw [if_neg (show ¬ z_lwI (some v) = 0 from ne), show z_lwI (some v) = nI v.1 from rfl, g1, Option.bind_some, hv.2.2, if_pos rfl, l_999, z_heldE (by omega), nI_add, z_ml]
        obtain ⟨M', f1, f2, f3⟩ := ih (i + 1) fu M1 (by omega) (by omega) (z_Cf_t h3 fr1)
        rw [eS] at f1
        exact ⟨M', f1, f2, fun k a1 a2 => by rw [f3 k a1 a2, g3 k (by rw [z_lcN2]; omega)]⟩
    · rw [if_pos (nI_lt (by omega) (by omega))]
      have eS : z_wS lk s t (i + 1) = z_wS lk s t i := by rw [z_wS, if_neg g, Nat.add_zero]
      have := ih (i + 1) fu M (by omega) (by omega) h3
      rw [eS] at this
      exact this
theorem z_mW {s : Nat → Nat} {t m : Nat} {lk : Option TU} {tq : Int32} {R : Nat → Int32} (ht : t ≤ 100) (hm : m ≤ 24) (h4 : s 4 = m) (hR : ∀ i, 1 ≤ i → i < 158 → R i = nI (s i)) (hB : ∀ i, i < m → z_sH s i ≤ 99) (hk1 : ∀ v, lk = some v → v.2.1 = 1) (htq : match lk with
    | none => tq = -1
    | some v => ∃ tx, tx < 14 ∧ tq = nI tx ∧ z_MT R tx v) : ∀ r i fu (M : Mem), i + r = m → r < fu → M 94 = R → ∃ M', f_X10_walksFrom_L11 (nI t) tq fu (nI (z_wS lk s t i)) (nI i) M = some (nI (z_wS lk s t m), M') ∧ ∀ b, b ≠ 116 → b ≠ 117 → M' b = M b := by
  intro r
  induction r with
  | zero =>
    intro i fu M h1 h2 h3
    obtain ⟨fu, rfl⟩ : ∃ f, fu = f + 1 := ⟨fu - 1, by omega⟩
    refine ⟨M, ?_, fun _ _ _ => rfl⟩
    rw [f_X10_walksFrom_L11, z_c4, h3, hR 4 (by omega) (by omega), if_pos (nI_le (by omega) (by omega)), show i = m by omega]
  | succ r ih =>
    intro i fu M h1 h2 h3
    obtain ⟨fu, rfl⟩ : ∃ f, fu = f + 1 := ⟨fu - 1, by omega⟩
    have x3 := hB i (by omega)
    have hMM : ∀ M' : Mem, M' 94 = R → z_MR M' 94 s := by intro M' h k g1 g2; rw [h]; exact hR k g1 g2
    have q0 : f_X10_book4 M (nI i) 0 = some (nI (z_sH s i)) := z_b4 (hMM M h3) (j := i) (w := 0) (by omega) (by omega)
    rw [f_X10_walksFrom_L11, z_c4, h3, hR 4 (by omega) (by omega), if_neg (nI_ge (by omega) (by omega)), q0, Option.bind_some, nI_1]
    by_cases g : t ≤ z_sH s i
    · rw [if_neg (nI_nlt g (by omega)), Option.bind_some, z_ml]
      have eS : z_wS lk s t (i + 1) = z_wS lk s t i + z_wv lk s i := by rw [z_wS, if_pos g]
      have q2 : f_X10_book4 (bw_up M 117 (0 : Int32).toNatClampNeg (nI (z_sH s i))) (nI i) 2 = some (nI (s (16 + 4 * i))) := by
        have := z_b4 (hMM (bw_up M 117 (0 : Int32).toNatClampNeg (nI (z_sH s i))) (by rw [z_up_k _ _ _ _ (by omega)]; exact h3)) (j := i) (w := 2) (by omega) (by omega)
        rw [show 14 + 4 * i + 2 = 16 + 4 * i by omega] at this
        exact this
      rw [q2, Option.bind_some, z_ml, show ((0 : Int32).toNatClampNeg) = 0 from rfl, show ((1 : Int32).toNatClampNeg) = 1 from rfl]
      obtain ⟨M8, hM8⟩ : ∃ M8, M8 = bw_up (bw_up M 117 0 (nI (z_sH s i))) 117 1 (nI (s (16 + 4 * i))) := ⟨_, rfl⟩
      have o8 : ∀ k, k ≠ 117 → M8 k = M k := by intro k g1; rw [hM8, z_up_k _ _ _ _ g1, z_up_k _ _ _ _ g1]
      rw [← hM8]
      cases lk with
      | none =>
        dsimp only at htq
        rw [htq] at ih ⊢
        rw [if_neg (by decide), l_5, nI_add]
        obtain ⟨M', f1, f2⟩ := ih (i + 1) fu M8 (by omega) (by omega) (by rw [o8 94 (by omega)]; exact h3)
        rw [eS] at f1
        exact ⟨M', f1, fun b g1 g2 => by rw [f2 b g1 g2, o8 b g2]⟩
      | some v =>
        obtain ⟨tx, t1, t2, t3⟩ := htq
        rw [t2] at ih ⊢
        obtain ⟨M6, e1, e2⟩ := z_wrkT (M := M8) (t := tx) (u := v) (a := nI (z_sH s i)) (b := nI (s (16 + 4 * i))) (c := 0) t1 (by rw [o8 94 (by omega), h3]; exact t3) (by rw [hM8]; simp (disch := omega) only [z_up, if_pos, if_neg, ite_true, ite_false, and_self, and_true, true_and, and_false, false_and]) (by rw [hM8, z_up_s]) (by intro h0; have := hk1 v rfl; omega)
        rw [if_pos (nI_pos' (by omega)), e1, Option.bind_some, l_999, z_withE (by omega), nI_add, z_ml]
        obtain ⟨M', f1, f2⟩ := ih (i + 1) fu M6 (by omega) (by omega) (by rw [e2 94 (by omega), o8 94 (by omega)]; exact h3)
        rw [eS] at f1
        exact ⟨M', f1, fun b g1 g2 => by rw [f2 b g1 g2, e2 b g1, o8 b g2]⟩
    · rw [if_pos (nI_lt (by omega) (by omega))]
      have eS : z_wS lk s t (i + 1) = z_wS lk s t i := by rw [z_wS, if_neg g, Nat.add_zero]
      have := ih (i + 1) fu M (by omega) (by omega) h3
      rw [eS] at this
      exact this
