/-! level 2: apart, edge -/
def z_V (s : Nat → Nat) (lw lk : Option TU) (t : Nat) : Option Nat := match z_V0 s lw (z_ki (z_pb s t true) (s 4)) with
  | none => none
  | some a => match z_V0 s lw (z_ki (z_pb s t false) (s 4)) with
    | none => none
    | some b => some (a + b + z_wS lk s t (s 4))
theorem z_VB {s : Nat → Nat} {lw lk : Option TU} {t : Nat} (hW : z_W s) : ∀ q, z_V s lw lk t = some q → q < 2 ^ 30 := by
  intro q hq
  unfold z_V at hq
  cases ha : z_V0 s lw (z_ki (z_pb s t true) (s 4)) with
  | none => rw [ha] at hq; simp at hq
  | some a =>
    rw [ha] at hq
    cases hb : z_V0 s lw (z_ki (z_pb s t false) (s 4)) with
    | none => rw [hb] at hq; simp at hq
    | some b =>
      rw [hb] at hq
      simp at hq
      have := z_V0B hW a ha
      have := z_V0B hW b hb
      have := z_wS_le lk s t (s 4)
      have := hW.1.1
      omega
theorem z_LwsC {n : Nat} {M0 M : Mem} (hL : z_Lws n M0) (hc : z_Cf M0 M) (h7 : z_Lok M0 (M 1 7)) (h3 : z_Lok M0 (M 11 3)) : z_Lws n M := by
  refine ⟨?_, ?_, ?_, ?_⟩
  · obtain ⟨c, h1, h2, h3⟩ := hL.1
    exact ⟨c, h1, h2, by rw [hc.1 0 (by omega)]; exact h3⟩
  · intro i hi
    unfold z_Lok
    rw [hc.1 0 (by omega), hc.1 32 (by omega), hc.1 52 (by omega)]
    exact hL.2.1 i hi
  · unfold z_Lok at h7 ⊢
    rw [hc.1 0 (by omega)]; exact h7
  · unfold z_Lok at h3 ⊢
    rw [hc.1 0 (by omega)]; exact h3
theorem z_cPA {n : Nat} {M0 M : Mem} {s : Nat → Nat} {u : Nat → TU} {t m' : Nat} {h' t' d' : Nat → Nat} {lw : Option TU} (ht : t ≤ 100) (hS : z_Stk M0 25 94 s u) (hL : z_Lws n M0) (hc : z_Cf M0 M) (h11 : M 11 = M0 11) (hp : z_Pl m' (s 1) (s 2) (s 7) h' t' d' (z_sA s) lw M) : ∃ M', f_X9_pricesApart M (nI t) = some (z_oN (z_V s lw (z_lw 1 u (s 6)) t), M') ∧ (∃ m2 h2 t2 d2, z_Pl m2 (s 1) (s 2) (s 7) h2 t2 d2 (z_sA s) lw M') ∧ z_Cf M0 M' ∧ M' 11 = M0 11 := by
  have hfu : 100 < bw_fu := by decide
  have hW := hS.1
  have w1 : s 4 ≤ 24 := hW.1.1
  obtain ⟨Ma, a1, a2, a3, a4⟩ := z_keep (b := true) ht hS (fun b' g1 g2 => hc.1 b' (by omega)) hp
  obtain ⟨Mb, b1, b2, b3, b4, b5, b6⟩ := z_cLst (z_kBd hW) a2
  have cb : z_Cf M0 Mb := z_Cf_t hc (z_Cf_t a3 b3)
  obtain ⟨Mc, c1, c2, c3, c4⟩ := z_keep (b := false) ht hS (fun b' g1 g2 => cb.1 b' (by omega)) b2
  obtain ⟨Md, d1, d2, d3, d4, d5, d6⟩ := z_cLst (z_kBd hW) c2
  have cd : z_Cf M0 Md := z_Cf_t cb (z_Cf_t c3 d3)
  have m11 : Md 11 = M0 11 := by
    rw [d6 11 (by omega) (by omega) (by omega) (by omega) (by omega), c4 11 (by omega), b6 11 (by omega) (by omega) (by omega) (by omega) (by omega), a4 11 (by omega), h11]
  rw [if_pos rfl] at a1
  rw [if_neg (by decide)] at c1
  have b1' : f_X2_leastPrices Ma = some (z_oN (z_V0 s lw (z_ki (z_pb s t true) (s 4))), Mb) := b1
  have d1' : f_X2_leastPrices Mc = some (z_oN (z_V0 s lw (z_ki (z_pb s t false) (s 4))), Md) := d1
  have B1 := z_V0B (lw := lw) (t := t) (b := true) hW
  have B2 := z_V0B (lw := lw) (t := t) (b := false) hW
  unfold f_X9_pricesApart z_V
  rw [a1, Option.bind_some, b1', Option.bind_some, show (z_oN (z_V0 s lw (z_ki (z_pb s t true) (s 4))), Mb).2 = Mb from rfl, c1, Option.bind_some, d1', Option.bind_some]
  cases hA : z_V0 s lw (z_ki (z_pb s t true) (s 4)) with
  | none =>
    refine ⟨Md, ?_, ⟨_, _, _, _, d2⟩, cd, m11⟩
    rw [if_pos (show (z_oN none, Mb).1 < 0 from (by decide : (-1000000005 : Int32) < 0))]
    rfl
  | some a =>
    rw [if_neg (show ¬ (z_oN (some a), Mb).1 < 0 from nI_pos (by have := B1 a hA; omega))]
    dsimp only
    cases hB : z_V0 s lw (z_ki (z_pb s t false) (s 4)) with
    | none =>
      refine ⟨Md, ?_, ⟨_, _, _, _, d2⟩, cd, m11⟩
      rw [if_neg (show ¬ 0 ≤ z_oN none by decide)]
      rfl
    | some b =>
      rw [if_pos (show 0 ≤ z_oN (some b) from nI_pos' (by have := B2 b hB; omega))]
      have hS2 : z_Stk Md 25 94 s u := z_Stk_fr (cd.1 94 (by omega)) (fun k g1 g2 => cd.1 k (by omega)) cd.2 hS
      have lws := z_LwsC hL cd (z_PlLok d2 cd) (by rw [m11]; exact hL.2.2.2)
      obtain ⟨l1, l2, l3⟩ := z_lawOf (k := 1) hS2 (by omega) lws (fun t ht => (lws.2.1 t ht).1)
      obtain ⟨-, -, -, e1, e2, -⟩ := hS2
      obtain ⟨Me, f1, f2, f3⟩ := z_cW (s := s) (t := t) (m := s 4) (lk := z_lw 1 u (s 6)) (M0 := Md) ht w1 e1.1 (fun i hi => ⟨(e2 i hi).1, (e2 i hi).2.2.1, (hW.2.1 i hi).2.1⟩) (fun v hv => (l3 v hv).1) (s 4) 0 bw_fu Md (by omega) (by omega) (z_Cf_r Md)
      have f1' : f_X6_walks Md 25 (nI t) = some (nI (z_wS (z_lw 1 u (s 6)) s t (s 4)), Me) := by
        unfold f_X6_walks
        have l1' : f_X6_lawOf Md 25 1 = some (z_lwI (z_lw 1 u (s 6))) := l1
        rw [l1', Option.bind_some]
        rw [show z_wS (z_lw 1 u (s 6)) s t 0 = 0 from rfl, show nI 0 = 0 from rfl] at f1
        exact f1
      refine ⟨Me, ?_, ⟨_, _, _, _, z_Pl_fr f2 (fun x _ => by rw [f3 1 (by omega) (by omega)]) (fun k g1 g2 => f3 k (by omega) (by omega)) (by rw [f3 6 (by omega) (by omega)]; exact d2.2.2.2.2.2.2.2) d2⟩, z_Cf_t cd f2, by rw [f3 11 (by omega) (by omega), m11]⟩
      rw [f1', Option.bind_some, show z_oN (some a) = nI a from rfl, show z_oN (some b) = nI b from rfl, nI_add, nI_add]
      rfl
theorem z_mPA {M : Mem} {S : Nat} {s : Nat → Nat} {u : Nat → TU} {t m' q0 : Nat} {h' t' d' : Nat → Nat} {lw : Option TU} (ht : t ≤ 100) (hW : z_W s) (hM : z_MR M 94 s) (hT : ∀ t, t < s 6 → z_Txt M S 94 t (u t)) (hk1 : ∀ v, z_lw 1 u (s 6) = some v → v.2.1 = 1) (hp : z_Mp m' (s 1) (s 2) (s 7) h' t' d' (z_sA s) lw q0 M) : ∃ M', f_X10_apartFrom M (nI t) = some (z_oI (z_V s lw (z_lw 1 u (s 6)) t), M') ∧ (∃ m2 h2 t2 d2, z_Mp m2 (s 1) (s 2) (s 7) h2 t2 d2 (z_sA s) lw q0 M') ∧ z_Mf M M' := by
  have hfu : 100 < bw_fu := by decide
  have w1 : s 4 ≤ 24 := hW.1.1
  obtain ⟨Ma, a1, ⟨m2, h2, t2, d2, a2⟩, a3⟩ := z_mSome (b := true) ht hW hM hp
  have hMa : z_MR Ma 94 s := by intro i g1 g2; rw [a3.1 94 (by omega)]; exact hM i g1 g2
  obtain ⟨Mb, b1, ⟨m3, h3, t3, d3, b2⟩, b3⟩ := z_mSome (b := false) ht hW hMa a2
  rw [if_pos rfl] at a1
  rw [if_neg (by decide)] at b1
  have mf : z_Mf M Mb := z_Mf_t a3 b3
  have h94 := mf.1 94 (by omega)
  have B1 := z_V0B (lw := lw) (t := t) (b := true) hW
  have B2 := z_V0B (lw := lw) (t := t) (b := false) hW
  unfold f_X10_apartFrom z_V
  rw [a1, Option.bind_some, show (z_oI (z_V0 s lw (z_ki (z_pb s t true) (s 4))), Ma).2 = Ma from rfl, b1, Option.bind_some]
  cases hA : z_V0 s lw (z_ki (z_pb s t true) (s 4)) with
  | none =>
    refine ⟨Mb, ?_, ⟨_, _, _, _, b2⟩, mf⟩
    rw [if_pos (show (z_oI none, Ma).1 < 0 from (by decide : (-1 : Int32) < 0))]
    rfl
  | some a =>
    rw [if_neg (show ¬ (z_oI (some a), Ma).1 < 0 from nI_pos (by have := B1 a hA; omega))]
    dsimp only
    cases hB : z_V0 s lw (z_ki (z_pb s t false) (s 4)) with
    | none =>
      refine ⟨Mb, ?_, ⟨_, _, _, _, b2⟩, mf⟩
      rw [if_neg (show ¬ 0 ≤ z_oI none by decide)]
      rfl
    | some b =>
      rw [if_pos (show 0 ≤ z_oI (some b) from nI_pos' (by have := B2 b hB; omega))]
      have ml := z_MLwS (k := 1) hW hM hT (by omega)
      have ml2 := z_MLw_fr h94 ml
      have main : ∃ Me, f_X10_walksFrom Mb (nI t) = some (nI (z_wS (z_lw 1 u (s 6)) s t (s 4)), Me) ∧ ∀ b, b ≠ 116 → b ≠ 117 → Me b = Mb b := by
        unfold f_X10_walksFrom
        generalize z_lw 1 u (s 6) = lk at *
        cases lk with
        | none =>
          rw [show f_X10_counts Mb 1 = some (-1) from ml2, Option.bind_some]
          have q := z_mW (s := s) (t := t) (m := s 4) (lk := none) (tq := -1) (R := Mb 94) ht w1 rfl (fun i g1 g2 => by rw [h94]; exact hM i g1 g2) (fun i hi => (hW.2.1 i hi).2.1) hk1 rfl (s 4) 0 bw_fu Mb (by omega) (by omega) rfl
          rw [show z_wS none s t 0 = 0 from rfl, show nI 0 = 0 from rfl] at q
          exact q
        | some v =>
          obtain ⟨tx, x1, x2, x3⟩ := ml2
          rw [show f_X10_counts Mb 1 = some (nI tx) from x2, Option.bind_some]
          have q := z_mW (s := s) (t := t) (m := s 4) (lk := some v) (tq := nI tx) (R := Mb 94) ht w1 rfl (fun i g1 g2 => by rw [h94]; exact hM i g1 g2) (fun i hi => (hW.2.1 i hi).2.1) hk1 ⟨tx, x1, rfl, x3⟩ (s 4) 0 bw_fu Mb (by omega) (by omega) rfl
          rw [show z_wS (some v) s t 0 = 0 from rfl, show nI 0 = 0 from rfl] at q
          exact q
      obtain ⟨Me, f1, f2⟩ := main
      refine ⟨Me, ?_, ⟨_, _, _, _, z_Mp_fr (f2 94 (by omega) (by omega)) (by rw [f2 93 (by omega) (by omega)]; exact ⟨rfl, rfl, rfl, rfl⟩) (fun k g1 g2 => f2 k (by omega) (by omega)) b2⟩, z_Mf_t mf (z_Mf_b (fun b hb => f2 b (by omega) (by omega)))⟩
      rw [f1, Option.bind_some, show z_oI (some a) = nI a from rfl, show z_oI (some b) = nI b from rfl, nI_add, nI_add]
      rfl
