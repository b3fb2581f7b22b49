/-! level 2: apart, edge -/
theorem z_upup (M : Mem) (k i : Nat) (x y : Int32) : bw_up (bw_up M k i x) k i y = bw_up M k i y := by
  funext b j
  rw [z_up, z_up, z_up]
  by_cases e : b = k ∧ j = i
  · rw [if_pos e, if_pos e]
  · rw [if_neg e, if_neg e, if_neg e]
theorem z_sSome0 (M : Mem) (v b : Int32) : f_X10_settleSome (bw_up M 93 7 0) v b = f_X10_settleSome M v b := by
  unfold f_X10_settleSome; rw [z_ml, z_ml, z_upup]
theorem z_aFrom0 (M : Mem) (v : Int32) : f_X10_apartFrom (bw_up M 93 7 0) v = f_X10_apartFrom M v := by
  unfold f_X10_apartFrom; rw [z_sSome0]
/-- the model asks; no books are taken yet -/
theorem z_mAsk0 {M : Mem} {S n : Nat} {s : Nat → Nat} {u : Nat → TU} (hn : n < 512) (hW : z_W s) (hM : z_MR M 94 s) (hT : ∀ t, t < s 6 → z_Txt M S 94 t (u t)) (hA : z_Ask n M) : ∃ q Mc, q ≤ n ∧ f_X10_asks M = some Mc ∧ z_Mp 0 (s 1) (s 2) (s 7) (z_sH s) (z_sT s) (z_sD s) (z_sA s) (z_lw 0 u (s 6)) (q + 1) (bw_up Mc 93 7 0) ∧ z_Mf M (bw_up Mc 93 7 0) := by
  obtain ⟨q, Mc, Md, q1, g1, g2, g3, g4, g5, g6, g7, g8, g9, g10, g11, g12⟩ := z_mBeg (n := n) hn hW hM hT hA
  refine ⟨q, Mc, q1, g1, ?_, ?_⟩
  · obtain ⟨p1, p2, p3, p4, p5, p6, p7, p8, p9⟩ := g3
    have h94 : bw_up Mc 93 7 0 94 = Md 94 := by rw [z_up_k _ _ _ _ (by omega), g12 94 (by omega) (by omega), g6 94 (by omega) (by omega) (by omega) (by omega) (by omega)]
    refine ⟨z_up_s _ _ _ _, by rw [z_up_i _ _ _ _ (by omega)]; exact g8, by rw [h94]; exact p3, by rw [z_up_i _ _ _ _ (by omega)]; exact g9, fun j hj => by omega, by rw [z_up_k _ _ _ _ (by omega)]; exact g10, z_MLw_fr h94 p7, ⟨p8.1, by rw [z_up_i _ _ _ _ (by omega)]; exact g7⟩, ?_⟩
    rw [z_up_k _ _ _ _ (show 102 ≠ 93 by omega), z_up_k _ _ _ _ (show 101 ≠ 93 by omega), g12 102 (by omega) (by omega), g12 101 (by omega) (by omega), ← g6 102 (by omega) (by omega) (by omega) (by omega) (by omega), ← g6 101 (by omega) (by omega) (by omega) (by omega) (by omega)]
    exact p9
  · refine ⟨fun b hb => by rw [z_up_k _ _ _ _ (by omega), g12 b (by omega) (by omega)], ?_, ?_, ?_⟩ <;> rw [z_up_i _ _ _ _ (by omega), g11 _ (by omega) (by omega) (by omega)]
theorem z_oNI {b : Option Nat} (hb : ∀ q, b = some q → q < 2 ^ 31) : (if 0 ≤ z_oI b then z_oI b else -1000000005) = z_oN b := by
  cases b with
  | none => rw [if_neg (show ¬ 0 ≤ z_oI none by decide)]; rfl
  | some q => rw [if_pos (show 0 ≤ z_oI (some q) from nI_pos' (hb q rfl))]; rfl
theorem op_apart : Op_apart Inv := by
  intro n M a hn hI
  have hI' := hI
  obtain ⟨⟨s, u, hS⟩, -⟩ := hI'
  have hS' := hS
  obtain ⟨hW, hM, hz, c1, c2, c3, c4, hT⟩ := hS
  obtain ⟨w1, w2, w3, w4, w5, w6, w7, w8, w9⟩ := hW.1
  obtain ⟨d1, d2, d3, d4, d5, d6, d7⟩ := c1
  have m4 : M 94 4 = nI (s 4) := hM 4 (by omega) (by omega)
  have m5 : M 94 5 = nI (s 5) := hM 5 (by omega) (by omega)
  have m6 : M 94 6 = nI (s 6) := hM 6 (by omega) (by omega)
  have m7 : M 94 7 = nI (s 7) := hM 7 (by omega) (by omega)
  have hL := z_32L hI
  have hA := hI.2.2.2.2.2.2.2.1
  rcases z_wi a 1 100 (by omega) (by omega) with o | ⟨o, t, t1, t2, rfl⟩
  · rw [← l_1, ← l_100] at o
    refine ⟨-1000000001, M, M, ?_, ?_, z_nochange hI⟩
    · unfold f_X9_apart; rw [if_pos o]
    · unfold f_X10_apart; rw [z_in, if_pos o]
  · rw [← l_1, ← l_100] at o
    obtain ⟨Ml, e1, e2, e3, e4, e5, e6⟩ := z_load (n := n) hS' (by omega) (by omega) hL (fun t ht => (hL.2.1 t ht).1)
    obtain ⟨M1, f1, ⟨m2, h2, t2', d2', f2⟩, f3, f4⟩ := z_cPA (n := n) t2 hS' hL e3 (e6 11 (by omega) (by omega)) e2
    have st : z_Stk M1 25 94 s u := z_Stk_fr (f3.1 94 (by omega)) (fun k g1 g2 => f3.1 k (by omega)) f3.2 hS'
    obtain ⟨q, Mc, q1, g1, g2, g3⟩ := z_mAsk0 (n := n) hn hW st.2.1 st.2.2.2.2.2.2.2 (z_Ask_fr (by rw [f3.1 93 (by omega)]) (f3.1 102 (by omega)) hA)
    obtain ⟨-, -, l3⟩ := z_lawOf (k := 1) hS' (by omega) hL (fun t ht => (hL.2.1 t ht).1)
    have hMc : z_MR (bw_up Mc 93 7 0) 94 s := by intro i a1 a2; rw [g3.1 94 (by omega)]; exact st.2.1 i a1 a2
    have hTc : ∀ t, t < s 6 → z_Txt (bw_up Mc 93 7 0) 25 94 t (u t) := fun t ht => z_Txt_fr (g3.1 94 (by omega)) (g3.1 32 (by omega)) (fun c => ⟨g3.1 _ (by omega), g3.1 _ (by omega), by rw [g3.1 _ (by omega)]⟩) (st.2.2.2.2.2.2.2 t ht)
    obtain ⟨M2, j1, ⟨m3, h3, t3, d3', j2⟩, j3⟩ := z_mPA t2 hW hMc hTc (fun v hv => (l3 v hv).2) g2
    rw [z_aFrom0] at j1
    refine ⟨z_oN (z_V s (z_lw 0 u (s 6)) (z_lw 1 u (s 6)) t), M1, M2, ?_, ?_, z_fin hI f3 (z_PlLok f2 f3) (by rw [f4]; exact hL.2.2.2) (z_Mf_t g3 j3) (z_AskMp (by omega) j2)⟩
    · unfold f_X9_apart
      rw [o, if_neg (by decide), e1, Option.bind_some, f1, Option.bind_some]
    · unfold f_X10_apart
      rw [z_in, o, if_neg (by decide), g1, Option.bind_some, j1, Option.bind_some]
      rw [show (if 0 ≤ (z_oI (z_V s (z_lw 0 u (s 6)) (z_lw 1 u (s 6)) t), M2).1 then (z_oI (z_V s (z_lw 0 u (s 6)) (z_lw 1 u (s 6)) t), M2).1 else (-1000000005 : Int32)) = z_oN (z_V s (z_lw 0 u (s 6)) (z_lw 1 u (s 6)) t) from z_oNI (fun q hq => by have := z_VB hW q hq; omega)]
theorem z_VS {s : Nat → Nat} {lw lk : Option TU} {t : Nat} (h : z_has s (s 4) t = false) : z_V s lw lk t = z_V s lw lk (t + 1) := by
  have hne : ∀ i, i < s 4 → z_sH s i ≠ t := by
    intro i hi e
    have : z_has s (s 4) t = true := by
      unfold z_has
      rw [z_any_ex]
      exact ⟨i, by omega, by omega, by simp; exact e⟩
    rw [h] at this
    exact absurd this (by decide)
  have k : ∀ b, z_ki (z_pb s t b) (s 4) = z_ki (z_pb s (t + 1) b) (s 4) := by
    intro b
    refine z_ki_cg _ (fun j hj => ?_)
    have := hne j hj
    unfold z_pb
    have e : (decide (t ≤ z_sH s j)) = decide (t + 1 ≤ z_sH s j) := by
      by_cases g : t ≤ z_sH s j
      · rw [decide_eq_true g, decide_eq_true (by omega)]
      · rw [decide_eq_false g, decide_eq_false (by omega)]
    rw [e]
  have w : ∀ i, i ≤ s 4 → z_wS lk s t i = z_wS lk s (t + 1) i := by
    intro i
    induction i with
    | zero => intro _; rfl
    | succ i ih =>
      intro hi
      have := hne i (by omega)
      rw [z_wS, z_wS, ih (by omega)]
      by_cases g : t ≤ z_sH s i
      · rw [if_pos g, if_pos (by omega)]
      · rw [if_neg g, if_neg (by omega)]
  unfold z_V
  rw [k true, k false, w (s 4) (by omega)]
def z_eu (v : Option Nat) (t : Nat) (st : Nat × Option Nat) : Nat × Option Nat := match v with
  | none => st
  | some v => match st.2 with
    | none => (t, some v)
    | some b => if b ≤ v then st else (t, some v)
def z_er (V : Nat → Option Nat) : Nat → Nat × Option Nat → Nat × Option Nat
  | 0, st => st
  | r + 1, st => z_er V r (z_eu (V (r + 1)) (r + 1) st)
def z_eR (st : Nat × Option Nat) : Int32 := match st.2 with
  | none => -1000000005
  | some _ => nI st.1
def z_eF (st : Nat × Option Nat) : Int32 := match st.2 with
  | none => 0
  | some b => nI b
def z_eI (v : Option Nat) (st : Nat × Option Nat) : Prop := ∀ x, v = some x → ∃ b, st.2 = some b ∧ b ≤ x
theorem z_euI (v : Option Nat) (t : Nat) (st : Nat × Option Nat) : z_eI v (z_eu v t st) := by
  intro x hx
  subst hx
  unfold z_eu
  cases h : st.2 with
  | none => exact ⟨x, rfl, by omega⟩
  | some b =>
    dsimp only
    by_cases g : b ≤ x
    · rw [if_pos g]; exact ⟨b, h, g⟩
    · rw [if_neg g]; exact ⟨x, rfl, by omega⟩
theorem z_euS {v : Option Nat} {t : Nat} {st : Nat × Option Nat} (h : z_eI v st) : z_eu v t st = st := by
  unfold z_eu
  cases v with
  | none => rfl
  | some x =>
    obtain ⟨b, h1, h2⟩ := h x rfl
    rw [h1]
    dsimp only
    rw [if_pos h2]
theorem z_cEd {n : Nat} {M0 : Mem} {s : Nat → Nat} {u : Nat → TU} {lw : Option TU} (hS : z_Stk M0 25 94 s u) (hL : z_Lws n M0) : ∀ t fu (M : Mem) (st : Nat × Option Nat), t ≤ 99 → t < fu → z_Cf M0 M → M 11 = M0 11 → (∃ m2 h2 t2 d2, z_Pl m2 (s 1) (s 2) (s 7) h2 t2 d2 (z_sA s) lw M) → st.1 ≤ 100 → (∀ b, st.2 = some b → b < 2 ^ 30) → z_eI (z_V s lw (z_lw 1 u (s 6)) (t + 1)) st → ∃ M', f_X9_edge_L24 fu (nI st.1) (z_oN st.2) (nI t) M = some (z_eR (z_er (z_V s lw (z_lw 1 u (s 6))) t st), M') ∧ z_Cf M0 M' ∧ M' 11 = M0 11 ∧ ∃ m2 h2 t2 d2, z_Pl m2 (s 1) (s 2) (s 7) h2 t2 d2 (z_sA s) lw M' := by
  have hW := hS.1
  have w1 : s 4 ≤ 24 := hW.1.1
  have c1 := hS.2.2.2.1
  have c2 := hS.2.2.2.2.1
  intro t
  induction t with
  | zero =>
    intro fu M st h1 h2 hc h11 hp hs1 hs2 hi
    obtain ⟨fu, rfl⟩ : ∃ f, fu = f + 1 := ⟨fu - 1, by omega⟩
    refine ⟨M, ?_, hc, h11, hp⟩
    rw [f_X9_edge_L24, if_pos (by decide), z_er]
    unfold z_eR
    cases h : st.2 with
    | none => rw [if_neg (show ¬ 0 ≤ z_oN none by decide)]
    | some b => rw [if_pos (show 0 ≤ z_oN (some b) from nI_pos' (by have := hs2 b h; omega))]
  | succ t ih =>
    intro fu M st h1 h2 hc h11 hp hs1 hs2 hi
    obtain ⟨fu, rfl⟩ : ∃ f, fu = f + 1 := ⟨fu - 1, by omega⟩
    have hh := z_hasE (M := M) (S := 25) (s := s) (h := t + 1) (by omega) (by rw [hc.1 25 (by omega)]; exact c1.1) w1 (fun i hi => ⟨by rw [show 25 + 1 = 26 from rfl, hc.1 26 (by omega)]; exact (c2 i hi).1, (hW.2.1 i hi).2.1⟩)
    rw [f_X9_edge_L24, if_neg (show ¬ nI (t + 1) < 1 from nI_nlt (b := 1) (by omega) (by omega)), hh, Option.bind_some, nI_pred, z_er]
    by_cases gp : z_has s (s 4) (t + 1) = true
    · rw [if_pos gp, if_neg (by decide)]
      obtain ⟨m2, h2', t2', d2', hp'⟩ := hp
      obtain ⟨M1, f1, f2, f3, f4⟩ := z_cPA (n := n) (t := t + 1) (by omega) hS hL hc h11 hp'
      rw [f1, Option.bind_some]
      have VB := z_VB (s := s) (lw := lw) (lk := z_lw 1 u (s 6)) (t := t + 1) hW
      generalize hv : z_V s lw (z_lw 1 u (s 6)) (t + 1) = v at *
      have E : (if z_oN v < 0 then nI st.1 else if z_oN st.2 < 0 then nI (t + 1) else if z_oN st.2 ≤ z_oN v then nI st.1 else nI (t + 1)) = nI (z_eu v (t + 1) st).1 ∧ (if z_oN v < 0 then z_oN st.2 else if z_oN st.2 < 0 then z_oN v else if z_oN st.2 ≤ z_oN v then z_oN st.2 else z_oN v) = z_oN (z_eu v (t + 1) st).2 := by
        unfold z_eu
        cases v with
        | none => rw [if_pos (show z_oN none < 0 by decide), if_pos (show z_oN none < 0 by decide)]; exact ⟨rfl, rfl⟩
        | some x =>
          have xb := VB x rfl
          rw [if_neg (show ¬ z_oN (some x) < 0 from nI_pos (by omega)), if_neg (show ¬ z_oN (some x) < 0 from nI_pos (by omega))]
          dsimp only
          cases h : st.2 with
          | none => rw [if_pos (show z_oN none < 0 by decide), if_pos (show z_oN none < 0 by decide)]; exact ⟨rfl, rfl⟩
          | some b =>
            have bb := hs2 b h
            rw [if_neg (show ¬ z_oN (some b) < 0 from nI_pos (by omega)), if_neg (show ¬ z_oN (some b) < 0 from nI_pos (by omega))]
            dsimp only
            by_cases g : b ≤ x
            · rw [if_pos (show z_oN (some b) ≤ z_oN (some x) from nI_le g (by omega)), if_pos (show z_oN (some b) ≤ z_oN (some x) from nI_le g (by omega)), if_pos g, h]; exact ⟨rfl, rfl⟩
            · rw [if_neg (show ¬ z_oN (some b) ≤ z_oN (some x) from nI_ge (by omega) (by omega)), if_neg (show ¬ z_oN (some b) ≤ z_oN (some x) from nI_ge (by omega) (by omega)), if_neg g]; exact ⟨rfl, rfl⟩
      have e1 := E.1
      have e2 := E.2
      rw [show (if (z_oN v, M1).1 < 0 then nI st.1 else (if z_oN st.2 < 0 then nI (t + 1) else (if z_oN st.2 ≤ (z_oN v, M1).1 then nI st.1 else nI (t + 1)))) = nI (z_eu v (t + 1) st).1 from e1, show (if (z_oN v, M1).1 < 0 then z_oN st.2 else (if z_oN st.2 < 0 then (z_oN v, M1).1 else (if z_oN st.2 ≤ (z_oN v, M1).1 then z_oN st.2 else (z_oN v, M1).1))) = z_oN (z_eu v (t + 1) st).2 from e2]
      refine ih fu M1 (z_eu v (t + 1) st) (by omega) (by omega) f3 f4 f2 ?_ ?_ ?_
      · unfold z_eu
        cases v with
        | none => exact hs1
        | some x =>
          dsimp only
          cases st.2 with
          | none => dsimp only; omega
          | some b => dsimp only; split <;> (try dsimp only) <;> omega
      · intro b hb
        unfold z_eu at hb
        cases v with
        | none => exact hs2 b hb
        | some x =>
          have xb := VB x rfl
          dsimp only at hb
          cases h : st.2 with
          | none => rw [h] at hb; simp at hb; omega
          | some b0 =>
            rw [h] at hb
            dsimp only at hb
            split at hb
            · exact hs2 b hb
            · simp at hb; omega
      · exact z_euI v (t + 1) st
    · have gf : z_has s (s 4) (t + 1) = false := by simpa using gp
      rw [if_neg gp, if_pos rfl]
      have vs := z_VS (lw := lw) (lk := z_lw 1 u (s 6)) gf
      rw [z_euS (show z_eI (z_V s lw (z_lw 1 u (s 6)) (t + 1)) st by rw [vs]; exact hi)]
      exact ih fu M st (by omega) (by omega) hc h11 hp hs1 hs2 (by rw [vs]; exact hi)
theorem z_mEd {S : Nat} {s : Nat → Nat} {u : Nat → TU} {lw : Option TU} {q0 : Nat} {M0 : Mem} (hW : z_W s) (hM : z_MR M0 94 s) (hT : ∀ t, t < s 6 → z_Txt M0 S 94 t (u t)) (hS : S + 7 < 93) (hk1 : ∀ v, z_lw 1 u (s 6) = some v → v.2.1 = 1) : ∀ t fu (M : Mem) (st : Nat × Option Nat), t ≤ 100 → t < fu → z_Mf M0 M → (∃ m2 h2 t2 d2, z_Mp m2 (s 1) (s 2) (s 7) h2 t2 d2 (z_sA s) lw q0 M) → st.1 ≤ 100 → (∀ b, st.2 = some b → b < 2 ^ 30) → ∃ M', f_X10_edge_L12 fu (z_eR st) (z_eF st) (nI t) M = some (z_eR (z_er (z_V s lw (z_lw 1 u (s 6))) t st), M') ∧ z_Mf M0 M' ∧ ∃ m2 h2 t2 d2, z_Mp m2 (s 1) (s 2) (s 7) h2 t2 d2 (z_sA s) lw q0 M' := by
  intro t
  induction t with
  | zero =>
    intro fu M st h1 h2 hc hp hs1 hs2
    obtain ⟨fu, rfl⟩ : ∃ f, fu = f + 1 := ⟨fu - 1, by omega⟩
    refine ⟨M, ?_, hc, hp⟩
    rw [f_X10_edge_L12, if_pos (by decide)]; rfl
  | succ t ih =>
    intro fu M st h1 h2 hc hp hs1 hs2
    obtain ⟨fu, rfl⟩ : ∃ f, fu = f + 1 := ⟨fu - 1, by omega⟩
    obtain ⟨m2, h2', t2', d2', hp'⟩ := hp
    obtain ⟨M1, f1, f2, f3⟩ := z_mPA (t := t + 1) (by omega) hW (M := M) (by intro i a1 a2; rw [hc.1 94 (by omega)]; exact hM i a1 a2) (fun t ht => z_Txt_fr (hc.1 94 (by omega)) (hc.1 (S + 7) (by omega)) (fun c => ⟨hc.1 _ (by omega), hc.1 _ (by omega), by rw [hc.1 _ (by omega)]⟩) (hT t ht)) hk1 hp'
    rw [f_X10_edge_L12, if_neg (nI_nle (by omega) (by omega)), f1, Option.bind_some, nI_pred, z_er]
    have VB := z_VB (s := s) (lw := lw) (lk := z_lw 1 u (s 6)) (t := t + 1) hW
    generalize hv : z_V s lw (z_lw 1 u (s 6)) (t + 1) = v at *
    have E : (if z_oI v < 0 then z_eR st else if z_eR st = -1000000005 then nI (t + 1) else if z_eF st ≤ z_oI v then z_eR st else nI (t + 1)) = z_eR (z_eu v (t + 1) st) ∧ (if z_oI v < 0 then z_eF st else if z_eR st = -1000000005 then z_oI v else if z_eF st ≤ z_oI v then z_eF st else z_oI v) = z_eF (z_eu v (t + 1) st) := by
      unfold z_eu
      cases v with
      | none => rw [if_pos (show z_oI none < 0 by decide), if_pos (show z_oI none < 0 by decide)]; exact ⟨rfl, rfl⟩
      | some x =>
        have xb := VB x rfl
        rw [if_neg (show ¬ z_oI (some x) < 0 from nI_pos (by omega)), if_neg (show ¬ z_oI (some x) < 0 from nI_pos (by omega))]
        dsimp only
        cases h : st.2 with
        | none =>
          have r : z_eR st = -1000000005 := by unfold z_eR; rw [h]
          rw [if_pos r, if_pos r]; exact ⟨rfl, rfl⟩
        | some b =>
          have bb := hs2 b h
          have r : z_eR st = nI st.1 := by unfold z_eR; rw [h]
          have f : z_eF st = nI b := by unfold z_eF; rw [h]
          have nr : ¬ z_eR st = -1000000005 := by
            rw [r]; intro e
            have e2 := congrArg Int32.toInt e
            rw [nI_toInt (by omega), show (-1000000005 : Int32).toInt = -1000000005 by decide] at e2
            omega
          rw [if_neg nr, if_neg nr, f]
          dsimp only
          by_cases g : b ≤ x
          · rw [if_pos (show nI b ≤ z_oI (some x) from nI_le g (by omega)), if_pos (show nI b ≤ z_oI (some x) from nI_le g (by omega)), if_pos g, f]; exact ⟨rfl, rfl⟩
          · rw [if_neg (show ¬ nI b ≤ z_oI (some x) from nI_ge (by omega) (by omega)), if_neg (show ¬ nI b ≤ z_oI (some x) from nI_ge (by omega) (by omega)), if_neg g]; exact ⟨rfl, rfl⟩
    rw [show (if (z_oI v, M1).1 < 0 then z_eR st else (if z_eR st = (-1000000005 : Int32) then nI (t + 1) else (if z_eF st ≤ (z_oI v, M1).1 then z_eR st else nI (t + 1)))) = z_eR (z_eu v (t + 1) st) from E.1, show (if (z_oI v, M1).1 < 0 then z_eF st else (if z_eR st = (-1000000005 : Int32) then (z_oI v, M1).1 else (if z_eF st ≤ (z_oI v, M1).1 then z_eF st else (z_oI v, M1).1))) = z_eF (z_eu v (t + 1) st) from E.2]
    refine ih fu M1 (z_eu v (t + 1) st) (by omega) (by omega) (z_Mf_t hc f3) f2 ?_ ?_
    · unfold z_eu
      cases v with
      | none => exact hs1
      | some x =>
        dsimp only
        cases st.2 with
        | none => dsimp only; omega
        | some b => dsimp only; split <;> (try dsimp only) <;> omega
    · intro b hb
      unfold z_eu at hb
      cases v with
      | none => exact hs2 b hb
      | some x =>
        have xb := VB x rfl
        dsimp only at hb
        cases h : st.2 with
        | none => rw [h] at hb; simp at hb; omega
        | some b0 =>
          rw [h] at hb
          dsimp only at hb
          split at hb
          · exact hs2 b hb
          · simp at hb; omega
theorem op_edge : Op_edge Inv := by
  intro n M hn hI
  have hI' := hI
  obtain ⟨⟨s, u, hS⟩, -⟩ := hI'
  have hS' := hS
  obtain ⟨hW, hM, hz, c1, c2, c3, c4, hT⟩ := hS
  obtain ⟨w1, w2, w3, w4, w5, w6, w7, w8, w9⟩ := hW.1
  obtain ⟨d1, d2, d3, d4, d5, d6, d7⟩ := c1
  have m4 : M 94 4 = nI (s 4) := hM 4 (by omega) (by omega)
  have m5 : M 94 5 = nI (s 5) := hM 5 (by omega) (by omega)
  have m6 : M 94 6 = nI (s 6) := hM 6 (by omega) (by omega)
  have m7 : M 94 7 = nI (s 7) := hM 7 (by omega) (by omega)
  have hfu : 200 < bw_fu := by decide
  have hL := z_32L hI
  have hA := hI.2.2.2.2.2.2.2.1
  obtain ⟨Ml, e1, e2, e3, e4, e5, e6⟩ := z_load (n := n) hS' (by omega) (by omega) hL (fun t ht => (hL.2.1 t ht).1)
  obtain ⟨Ma, f1, f2, f3, f4⟩ := z_cPA (n := n) (t := 100) (by omega) hS' hL e3 (e6 11 (by omega) (by omega)) e2
  obtain ⟨lw, hlw⟩ : ∃ lw, lw = z_lw 0 u (s 6) := ⟨_, rfl⟩
  rw [← hlw] at f1 f2
  have VB := z_VB (s := s) (lw := lw) (lk := z_lw 1 u (s 6)) (t := 100) hW
  have s0 : z_eu (z_V s lw (z_lw 1 u (s 6)) 100) 100 (100, none) = (100, z_V s lw (z_lw 1 u (s 6)) 100) := by
    unfold z_eu
    cases z_V s lw (z_lw 1 u (s 6)) 100 with
    | none => rfl
    | some v => rfl
  obtain ⟨M1, g1, g2, g3, m2, h2, t2, d2', g4⟩ := z_cEd (n := n) (lw := lw) hS' hL 99 bw_fu Ma (100, z_V s lw (z_lw 1 u (s 6)) 100) (by omega) (by omega) f3 f4 f2 (by dsimp only; omega) (fun b hb => VB b hb) (by rw [← s0]; exact z_euI _ _ _)
  have st : z_Stk M1 25 94 s u := z_Stk_fr (g2.1 94 (by omega)) (fun k g1 g2' => g2.1 k (by omega)) g2.2 hS'
  obtain ⟨q, Mc, q1, j1, j2, j3⟩ := z_mAsk0 (n := n) hn hW st.2.1 st.2.2.2.2.2.2.2 (z_Ask_fr (by rw [g2.1 93 (by omega)]) (g2.1 102 (by omega)) hA)
  rw [← hlw] at j2
  obtain ⟨-, -, l3⟩ := z_lawOf (k := 1) hS' (by omega) hL (fun t ht => (hL.2.1 t ht).1)
  have hMc : z_MR (bw_up Mc 93 7 0) 94 s := by intro i a1 a2; rw [j3.1 94 (by omega)]; exact st.2.1 i a1 a2
  have hTc : ∀ t, t < s 6 → z_Txt (bw_up Mc 93 7 0) 25 94 t (u t) := fun t ht => z_Txt_fr (j3.1 94 (by omega)) (j3.1 32 (by omega)) (fun c => ⟨j3.1 _ (by omega), j3.1 _ (by omega), by rw [j3.1 _ (by omega)]⟩) (st.2.2.2.2.2.2.2 t ht)
  obtain ⟨M2, k1, k2, m3, h3, t3, d3', k3⟩ := z_mEd (lw := lw) (q0 := q + 1) hW hMc hTc (by omega) (fun v hv => (l3 v hv).2) 100 bw_fu (bw_up Mc 93 7 0) (100, none) (by omega) (by omega) (z_Mf_r _) ⟨_, _, _, _, j2⟩ (by dsimp only; omega) (fun b hb => by simp at hb)
  have zr : z_er (z_V s lw (z_lw 1 u (s 6))) 100 (100, none) = z_er (z_V s lw (z_lw 1 u (s 6))) 99 (100, z_V s lw (z_lw 1 u (s 6)) 100) := by
    rw [z_er, s0]
  rw [zr] at k1
  refine ⟨z_eR (z_er (z_V s lw (z_lw 1 u (s 6))) 99 (100, z_V s lw (z_lw 1 u (s 6)) 100)), M1, M2, ?_, ?_, z_fin hI g2 (z_PlLok g4 g2) (by rw [g3]; exact hL.2.2.2) (z_Mf_t j3 k2) (z_AskMp (by omega) k3)⟩
  · unfold f_X9_edge
    have f1' : f_X9_pricesApart Ml 100 = some (z_oN (z_V s lw (z_lw 1 u (s 6)) 100), Ma) := f1
    have g1' : f_X9_edge_L24 bw_fu 100 (z_oN (z_V s lw (z_lw 1 u (s 6)) 100)) 99 Ma = some (z_eR (z_er (z_V s lw (z_lw 1 u (s 6))) 99 (100, z_V s lw (z_lw 1 u (s 6)) 100)), M1) := g1
    rw [e1, Option.bind_some, f1', Option.bind_some]
    exact g1'
  · unfold f_X10_edge
    rw [j1, Option.bind_some]
    -- the first step sets the number of books anew
    rw [show z_eR (100, none) = -1000000005 from rfl, show z_eF (100, none) = 0 from rfl, show nI 100 = 100 from rfl] at k1
    rw [show bw_fu = 1999 + 1 from rfl, f_X10_edge_L12, if_neg (show ¬ (100 : Int32) ≤ 0 by decide)] at k1 ⊢
    rw [z_aFrom0] at k1
    exact k1
