/-! level 2: text, what the model keeps while it reads; settle, notsOpen -/
def tx_S (b : Nat → Nat) (L i : Nat) : Nat := (tx_tk b L i).1
def tx_P (b : Nat → Nat) (L i : Nat) : Nat := (tx_tk b L i).2.1
def tx_E (b : Nat → Nat) (L i : Nat) : Nat := (tx_tk b L i).2.2
theorem tx_scB {b : Nat → Nat} {L p k0 : Nat} (hp : p ≤ L) : p ≤ (tx_sc b L p k0).2.1 ∧ (tx_sc b L p k0).2.1 ≤ (tx_sc b L p k0).2.2 ∧ (tx_sc b L p k0).2.2 ≤ L ∧ ((tx_sc b L p k0).1 ≠ 0 → (tx_sc b L p k0).2.1 < L ∧ (tx_sc b L p k0).2.1 + 1 ≤ (tx_sc b L p k0).2.2) := by
  have h1 := tx_skB b (L - p) p
  unfold tx_sc
  dsimp only
  generalize tx_sk b (L - p) p = s at h1 ⊢
  have hE := tx_eB (b := b) (L := L) (s := s) (by omega)
  refine ⟨by omega, by omega, by omega, fun h => ?_⟩
  have hk : tx_kd b L s ≠ 0 := by
    intro h0
    apply h
    unfold tx_so
    rw [h0, if_neg (show ¬ (((0 : Nat) = 1 ∨ (0 : Nat) = 2) ∧ (k0 = 1 ∨ k0 = 2) ∧ s = p) by omega), if_neg (show ¬ ((0 : Nat) = 2 ∧ 4 < tx_e b L s - s) by omega)]
  have := tx_kdL hk
  omega
theorem tx_EL {b : Nat → Nat} {L : Nat} : ∀ i, tx_E b L i ≤ L := by
  intro i
  induction i with
  | zero => exact (tx_scB (b := b) (p := 0) (k0 := 0) (by omega)).2.2.1
  | succ i ih => exact (tx_scB (b := b) (k0 := tx_S b L i) ih).2.2.1
theorem tx_PB {b : Nat → Nat} {L : Nat} (i : Nat) : tx_P b L i ≤ tx_E b L i ∧ (tx_S b L i ≠ 0 → tx_P b L i < L ∧ tx_P b L i + 1 ≤ tx_E b L i) := by
  cases i with
  | zero => exact ⟨(tx_scB (b := b) (p := 0) (k0 := 0) (by omega)).2.1, (tx_scB (b := b) (p := 0) (k0 := 0) (by omega)).2.2.2⟩
  | succ i => exact ⟨(tx_scB (b := b) (k0 := tx_S b L i) (tx_EL i)).2.1, (tx_scB (b := b) (k0 := tx_S b L i) (tx_EL i)).2.2.2⟩
theorem tx_Pn {b : Nat → Nat} {L i : Nat} (h : i ≤ tx_P b L i) (hS : tx_S b L i ≠ 0) : i + 1 ≤ tx_P b L (i + 1) ∧ i < L := by
  have h1 := (tx_PB (b := b) (L := L) i).2 hS
  have h2 : tx_E b L i ≤ tx_P b L (i + 1) := (tx_scB (b := b) (k0 := tx_S b L i) (tx_EL i)).1
  omega
theorem tx_soB (b : Nat → Nat) (L p k0 s : Nat) : tx_so b L p k0 s ≤ 4 := by
  have := tx_kd3 b L s
  unfold tx_so
  split
  · omega
  · split <;> omega
theorem tx_S4 {b : Nat → Nat} {L : Nat} (i : Nat) : tx_S b L i ≤ 4 := by
  cases i with
  | zero => exact tx_soB _ _ _ _ _
  | succ i => exact tx_soB _ _ _ _ _
/-- the frame -/
def tx_FR (Mb M : Mem) : Prop := z_Prs Mb M ∧ M 1 = Mb 1 ∧ M 11 = Mb 11 ∧ M 102 = Mb 102 ∧ M 93 13 = Mb 93 13
theorem tx_FR_t {M1 M2 M3 : Mem} (h : tx_FR M1 M2) (g : tx_FR M2 M3) : tx_FR M1 M3 := ⟨z_Prs_t h.1 g.1, g.2.1.trans h.2.1, g.2.2.1.trans h.2.2.1, g.2.2.2.1.trans h.2.2.2.1, g.2.2.2.2.trans h.2.2.2.2⟩
theorem tx_FR_r (M : Mem) : tx_FR M M := ⟨z_Prs_r M, rfl, rfl, rfl, rfl⟩
theorem tx_FR_row {M M' : Mem} {k : Nat} (hk : k = 14 ∨ k = 15 ∨ k = 113 ∨ k = 114 ∨ k = 115) (h : ∀ x, x ≠ k → M' x = M x) : tx_FR M M' :=
  ⟨z_Prs_row k h (fun i _ => by unfold z_scr z_pr; omega), h _ (by omega), h _ (by omega), h _ (by omega), by rw [h 93 (by omega)]⟩
theorem tx_FR_u {M : Mem} {k i : Nat} {x : Int32} (hk : k = 14 ∨ k = 15 ∨ k = 113 ∨ k = 114 ∨ k = 115) : tx_FR M (bw_up M k i x) := tx_FR_row hk (fun _ hy => z_up_k _ _ _ _ hy)
theorem tx_FR_93 {M M' : Mem} (h : ∀ x, x ≠ 93 → M' x = M x) (g : ∀ j, j = 3 ∨ j = 13 ∨ j = 26 ∨ j = 54 → M' 93 j = M 93 j) : tx_FR M M' :=
  ⟨z_Prs_row 93 h (fun i hi => by
    have : ¬ (i = 3 ∨ i = 13 ∨ i = 26 ∨ i = 54) := fun q => hi (g i q)
    unfold z_scr z_pr; omega), h _ (by omega), h _ (by omega), h _ (by omega), g 13 (by omega)⟩
theorem tx_FR_v {M : Mem} {i : Nat} {x : Int32} (hi : ¬ (i = 3 ∨ i = 13 ∨ i = 26 ∨ i = 54)) : tx_FR M (bw_up M 93 i x) := tx_FR_93 (fun _ hy => z_up_k _ _ _ _ hy) (fun j hj => z_up_i _ _ _ _ (fun h => hi (h ▸ hj)))
theorem tx_FR_16 {M M' : Mem} (h : ∀ x, x ≠ 16 → M' x = M x) (g : M' 16 1 = M 16 1) : tx_FR M M' :=
  ⟨z_Prs_row 16 h (fun i hi => by
    have : i ≠ 1 := fun q => hi (by rw [q]; exact g)
    unfold z_scr z_pr; omega), h _ (by omega), h _ (by omega), h _ (by omega), by rw [h 93 (by omega)]⟩
theorem tx_FR_o {M M' : Mem} (h : tx_mO M M') : tx_FR M M' := tx_FR_93 h.1 (fun j hj => h.2 j (by omega))
/-- what the model looks at -/
def tx_MK (b : Nat → Nat) (L i : Nat) (M : Mem) : Prop := tx_mT b L M ∧ M 93 27 = nI (tx_E b L i) ∧ M 93 28 = nI (tx_P b L i) ∧ M 93 29 = nI (tx_S b L i) ∧ (tx_S b L i = 1 ∨ tx_S b L i = 3 → M 93 30 = nI (b (tx_P b L i))) ∧ (tx_S b L i = 2 → M 93 30 = nI (tx_nu b (tx_E b L i - tx_P b L i) (tx_P b L i) 0)) ∧ (tx_S b L i ≠ 4 → tx_S b L i ≠ 0 → tx_cl L (tx_E b L i) (tx_S b L i) M)
theorem tx_MK_o {b : Nat → Nat} {L i : Nat} {M M' : Mem} (h110 : M' 110 = M 110) (h93 : ∀ j, 26 ≤ j → j ≤ 31 → M' 93 j = M 93 j) (h : tx_MK b L i M) : tx_MK b L i M' := by
  obtain ⟨a1, a2, a3, a4, a5, a6, a7⟩ := h
  unfold tx_MK tx_mT tx_cl
  rw [h110, h93 26 (by omega) (by omega), h93 27 (by omega) (by omega), h93 28 (by omega) (by omega), h93 29 (by omega) (by omega), h93 30 (by omega) (by omega), h93 31 (by omega) (by omega)]
  exact ⟨a1, a2, a3, a4, a5, a6, a7⟩
theorem tx_goK {b : Nat → Nat} {L i : Nat} {M : Mem} (hL : L ≤ 96) (hb : ∀ i, i < L → b i < 256) (h : tx_MK b L i M) (h0 : tx_S b L i ≠ 0) (h4 : tx_S b L i ≠ 4) : ∃ M', f_X10_go M = some M' ∧ tx_MK b L (i + 1) M' ∧ tx_mO M M' := by
  obtain ⟨a1, a2, a3, a4, a5, a6, a7⟩ := h
  obtain ⟨M', e1, e2, e3, e4, e5, e6, e7, e8⟩ := tx_go hL hb a1 (tx_EL i) a2 (a7 h4 h0)
  exact ⟨M', e1, ⟨tx_mT_o a1 e8, e4, e3, e2, e5, e6, e7⟩, e8⟩
/-- the waiting signs -/
def tx_wt (M : Mem) : List Nat → Prop
  | [] => True
  | x :: W => M 114 W.length = z_menc x ∧ tx_wt M W
theorem tx_wt_o {M M' : Mem} : ∀ W : List Nat, (∀ k, k < W.length → M' 114 k = M 114 k) → tx_wt M W → tx_wt M' W := by
  intro W
  induction W with
  | nil => intro _ _; trivial
  | cons x W ih =>
    intro h g
    exact ⟨by rw [h _ (by simp only [List.length_cons]; omega)]; exact g.1, ih (fun k hk => h k (by simp only [List.length_cons]; omega)) g.2⟩
theorem tx_wt_get {M : Mem} : ∀ W : List Nat, tx_wt M W → ∀ k, k < W.length → M 114 k = z_menc (W.reverse.getD k 0) := by
  intro W
  induction W with
  | nil => intro _ k hk; simp only [List.length_nil] at hk; omega
  | cons x W ih =>
    intro h k hk
    simp only [List.length_cons] at hk
    rw [List.reverse_cons, List.getD_eq_getElem?_getD]
    by_cases g : k < W.length
    · rw [List.getElem?_append_left (by rw [List.length_reverse]; exact g), ← List.getD_eq_getElem?_getD]
      exact ih h.2 k g
    · have : k = W.length := by omega
      subst this
      rw [List.getElem?_append_right (by rw [List.length_reverse]; omega), List.length_reverse, Nat.sub_self]
      exact h.1
def tx_no : List Nat → Nat
  | [] => 0
  | x :: l => (if x = 10019 then 1 else 0) + tx_no l
def tx_pa : List Nat → Nat
  | [] => 0
  | x :: l => (if x = 10020 then 1 else 0) + tx_pa l
theorem tx_no_a (A B : List Nat) : tx_no (A ++ B) = tx_no A + tx_no B := by
  induction A with
  | nil => simp [tx_no]
  | cons x A ih => rw [List.cons_append, tx_no, tx_no, ih]; omega
theorem tx_pa_a (A B : List Nat) : tx_pa (A ++ B) = tx_pa A + tx_pa B := by
  induction A with
  | nil => simp [tx_pa]
  | cons x A ih => rw [List.cons_append, tx_pa, tx_pa, ih]; omega
theorem tx_no_r (A : List Nat) : tx_no A.reverse = tx_no A := by
  induction A with
  | nil => rfl
  | cons x A ih => rw [List.reverse_cons, tx_no_a, ih, tx_no, tx_no, tx_no]; omega
theorem tx_no_l (A : List Nat) : tx_no A ≤ A.length := by
  induction A with
  | nil => simp [tx_no]
  | cons x A ih =>
    rw [tx_no, List.length_cons]
    split <;> omega
theorem tx_pa_l (A : List Nat) : tx_pa A ≤ A.length := by
  induction A with
  | nil => simp [tx_pa]
  | cons x A ih =>
    rw [tx_pa, List.length_cons]
    split <;> omega
def tx_wv (W : List Nat) : Prop := ∀ x, x ∈ W → 10010 ≤ x ∧ x ≤ 10020
theorem tx_wv_c {x : Nat} {W : List Nat} (h : 10010 ≤ x ∧ x ≤ 10020) (g : tx_wv W) : tx_wv (x :: W) := fun y hy => by
  rcases List.mem_cons.mp hy with e | e
  · rw [e]; exact h
  · exact g y e
def tx_rk (x : Nat) : Nat := if x = 10010 then 1 else if x = 10011 then 2 else if x ≤ 10014 then 3 else if x ≤ 10016 then 4 else if x ≤ 10018 then 5 else 6
theorem tx_11 {P : Nat → Prop} (h0 : P 10010) (h1 : P 10011) (h2 : P 10012) (h3 : P 10013) (h4 : P 10014) (h5 : P 10015) (h6 : P 10016) (h7 : P 10017) (h8 : P 10018) (h9 : P 10019) (ha : P 10020) (x : Nat) (h : 10010 ≤ x ∧ x ≤ 10020) : P x := by
  obtain rfl | rfl | rfl | rfl | rfl | rfl | rfl | rfl | rfl | rfl | rfl : x = 10010 ∨ x = 10011 ∨ x = 10012 ∨ x = 10013 ∨ x = 10014 ∨ x = 10015 ∨ x = 10016 ∨ x = 10017 ∨ x = 10018 ∨ x = 10019 ∨ x = 10020 := by omega
  all_goals assumption
theorem tx_rkI (x : Nat) (h : 10010 ≤ x ∧ x ≤ 10020) : f_X10_rank (z_menc x) = nI (tx_rk x) := by
  refine tx_11 (P := fun x => f_X10_rank (z_menc x) = nI (tx_rk x)) ?_ ?_ ?_ ?_ ?_ ?_ ?_ ?_ ?_ ?_ ?_ x h <;> decide
theorem tx_opI (x : Nat) (h : 10010 ≤ x ∧ x ≤ 10020) : (z_menc x = -11 ↔ x = 10020) := by
  refine tx_11 (P := fun x => (z_menc x = -11 ↔ x = 10020)) ?_ ?_ ?_ ?_ ?_ ?_ ?_ ?_ ?_ ?_ ?_ x h <;> decide
theorem tx_noI (x : Nat) (h : 10010 ≤ x ∧ x ≤ 10020) : (z_menc x = -10 ↔ x = 10019) := by
  refine tx_11 (P := fun x => (z_menc x = -10 ↔ x = 10019)) ?_ ?_ ?_ ?_ ?_ ?_ ?_ ?_ ?_ ?_ ?_ x h <;> decide
theorem tx_rkB (x : Nat) : 1 ≤ tx_rk x ∧ tx_rk x ≤ 6 := by
  unfold tx_rk
  repeat' split
  all_goals omega
def tx_MC (C : List Nat) (M : Mem) : Prop := M 93 36 = nI C.length ∧ M 93 37 = nI (z_ato C) ∧ ∀ k, k < C.length → M 113 k = z_menc (C.getD k 0)
def tx_MW (W : List Nat) (M : Mem) : Prop := M 93 39 = nI W.length ∧ tx_wt M W
def tx_Mt (p : Nat) (t : Nat → Bool) (M : Mem) : Prop := ∀ j, j ≤ p → (M 115 j = 0 ↔ t j = false)
theorem tx_ato_a (A B : List Nat) : z_ato (A ++ B) = z_ato A + z_ato B := by
  induction A with
  | nil => simp [z_ato]
  | cons x A ih => rw [List.cons_append, z_ato, z_ato, ih]; omega
theorem tx_gD {C : List Nat} {x k : Nat} (h : k < (C ++ [x]).length) : (k < C.length ∧ (C ++ [x]).getD k 0 = C.getD k 0) ∨ (k = C.length ∧ (C ++ [x]).getD k 0 = x) := by
  rw [List.length_append, List.length_singleton] at h
  by_cases g : k < C.length
  · left
    refine ⟨g, ?_⟩
    rw [List.getD_eq_getElem?_getD, List.getElem?_append_left g, ← List.getD_eq_getElem?_getD]
  · right
    have : k = C.length := by omega
    refine ⟨this, ?_⟩
    rw [List.getD_eq_getElem?_getD, List.getElem?_append_right (by omega), this, Nat.sub_self]
    rfl
theorem tx_MC_s {C : List Nat} {x : Nat} {M : Mem} (hx : 10010 ≤ x) (h : tx_MC C M) : tx_MC (C ++ [x]) (bw_up (bw_up M 113 C.length (z_menc x)) 93 36 (nI (C.length + 1))) := by
  obtain ⟨h1, h2, h3⟩ := h
  refine ⟨?_, ?_, ?_⟩
  · rw [z_up_s, List.length_append, List.length_singleton]
  · rw [z_up_i _ _ _ _ (by omega), z_up_k _ _ _ _ (by omega), h2, tx_ato_a, z_ato, z_ato, if_neg (by omega)]
    rfl
  · intro k hk
    rw [z_up_k _ _ _ _ (by omega)]
    rcases tx_gD hk with ⟨g, e⟩ | ⟨g, e⟩
    · rw [e, z_up_i _ _ _ _ (by omega)]; exact h3 k g
    · rw [e, g, z_up_s]
/-- settle: the top of the waiting signs goes to the code -/
theorem tx_set {b : Nat → Nat} {L i r : Nat} {W0 : List Nat} {Mb : Mem} {key : Int32} (hr : r ≤ 6) (h0 : ∀ y V, W0 = y :: V → y = 10020 ∨ tx_rk y < r) : ∀ (W1 C : List Nat) (fu : Nat) (M : Mem), tx_wv (W1 ++ W0) → (∀ x, x ∈ W1 → x ≠ 10020 ∧ r ≤ tx_rk x) → C.length + (W1 ++ W0).length ≤ 96 → W1.length < fu → tx_FR Mb M → tx_MK b L i M → M 93 32 = key → tx_MC C M → tx_MW (W1 ++ W0) M → ∃ M', f_X10_settle_L0 (nI r) fu M = some M' ∧ tx_FR Mb M' ∧ tx_MK b L i M' ∧ M' 93 32 = key ∧ tx_MC (C ++ W1) M' ∧ tx_MW W0 M' ∧ M' 115 = M 115 := by
  intro W1
  induction W1 with
  | nil =>
    intro C fu M hv _ hl hf g1 g2 g3 g4 g5
    obtain ⟨f, rfl⟩ : ∃ f, fu = f + 1 := ⟨fu - 1, by omega⟩
    rw [List.nil_append] at hv hl g5
    rw [List.append_nil]
    refine ⟨M, ?_, g1, g2, g3, g4, g5, rfl⟩
    rw [f_X10_settle_L0, g5.1]
    cases W0 with
    | nil => rw [if_pos (by decide)]
    | cons y V =>
      simp only [List.length_cons] at hl ⊢
      have hy := hv y List.mem_cons_self
      rw [if_neg (show ¬ nI (V.length + 1) ≤ 0 from nI_ge (a := 0) (by omega) (by omega)), l_1, pk_sub (by omega), Nat.add_sub_cancel, z_ib (by omega) (by omega), if_pos rfl, nI_clamp (by omega), g5.2.1]
      rcases h0 y V rfl with e | e
      · rw [if_pos ((tx_opI y hy).mpr e)]
      · by_cases c : z_menc y = -11
        · rw [if_pos c]
        · have := tx_rkB y
          rw [if_neg c, tx_rkI y hy, if_pos (nI_lt e (by omega))]
  | cons x W1 ih =>
    intro C fu M hv hx hl hf g1 g2 g3 g4 g5
    obtain ⟨f, rfl⟩ : ∃ f, fu = f + 1 := ⟨fu - 1, by omega⟩
    rw [List.cons_append] at hv hl g5
    simp only [List.length_cons] at hl hf
    have hy := hv x List.mem_cons_self
    have hx1 := hx x List.mem_cons_self
    have hrk := tx_rkB x
    have e9 : M 93 39 - 1 = nI (W1 ++ W0).length := by
      rw [g5.1, List.length_cons, l_1, pk_sub (by omega), Nat.add_sub_cancel]
    have e114 : M 114 (W1 ++ W0).length = z_menc x := g5.2.1
    have hstep : f_X10_settle_L0 (nI r) (f + 1) M = f_X10_settle_L0 (nI r) f (bw_up (bw_up (bw_up M 93 39 (nI (W1 ++ W0).length)) 113 C.length (z_menc x)) 93 36 (nI (C.length + 1))) := by
      rw [f_X10_settle_L0, if_neg (show ¬ M 93 39 ≤ 0 by rw [g5.1]; exact nI_ge (a := 0) (by simp only [List.length_cons]; omega) (by simp only [List.length_cons]; omega)), e9, z_ib (by omega) (by omega), if_pos rfl, nI_clamp (by omega), e114, if_neg (fun h => hx1.1 ((tx_opI x hy).mp h)), tx_rkI x hy, if_neg (nI_nlt hx1.2 (by omega)), z_ml, z_up_s, z_ib (by omega) (by omega), if_pos rfl, z_up_i _ _ _ _ (show 36 ≠ 39 by omega), g4.1, z_ib (by omega) (by omega), if_pos rfl, nI_clamp (by omega), nI_clamp (by omega), z_up_k _ _ _ _ (show 114 ≠ 93 by omega), e114, z_ml, z_up_k _ _ _ _ (show 93 ≠ 113 by omega), z_up_i _ _ _ _ (show 36 ≠ 39 by omega), g4.1, nI_1, z_ml]
    have q4 : tx_MC C (bw_up M 93 39 (nI (W1 ++ W0).length)) := ⟨by rw [z_up_i _ _ _ _ (by omega)]; exact g4.1, by rw [z_up_i _ _ _ _ (by omega)]; exact g4.2.1, fun k hk => by rw [z_up_k _ _ _ _ (by omega)]; exact g4.2.2 k hk⟩
    obtain ⟨M', e1, e2, e3, e4, e5, e6, e7⟩ := ih (C ++ [x]) f (bw_up (bw_up (bw_up M 93 39 (nI (W1 ++ W0).length)) 113 C.length (z_menc x)) 93 36 (nI (C.length + 1))) (fun y hy => hv y (List.mem_cons_of_mem _ hy)) (fun y hy => hx y (List.mem_cons_of_mem _ hy)) (by rw [List.length_append, List.length_singleton]; omega) (by omega) (tx_FR_t (tx_FR_t (tx_FR_t g1 (tx_FR_v (by omega))) (tx_FR_u (by omega))) (tx_FR_v (by omega))) (tx_MK_o (by rw [z_up_k _ _ _ _ (by omega), z_up_k _ _ _ _ (by omega), z_up_k _ _ _ _ (by omega)]) (fun j _ _ => by rw [z_up_i _ _ _ _ (by omega), z_up_k _ _ _ _ (by omega), z_up_i _ _ _ _ (by omega)]) g2) (by rw [z_up_i _ _ _ _ (by omega), z_up_k _ _ _ _ (by omega), z_up_i _ _ _ _ (by omega)]; exact g3) (tx_MC_s hy.1 q4) ⟨by rw [z_up_i _ _ _ _ (by omega), z_up_k _ _ _ _ (by omega), z_up_s], tx_wt_o _ (fun k _ => by rw [z_up_k _ _ _ _ (by omega), z_up_k _ _ _ _ (by omega), z_up_k _ _ _ _ (by omega)]) g5.2.2⟩
    refine ⟨M', by rw [hstep]; exact e1, e2, e3, e4, ?_, e6, ?_⟩
    · rw [List.append_assoc, List.singleton_append] at e5; exact e5
    · rw [e7, z_up_k _ _ _ _ (by omega), z_up_k _ _ _ _ (by omega), z_up_k _ _ _ _ (by omega)]
theorem tx_nol {M : Mem} {n : Nat} (hn : n ≤ 96) (h39 : M 93 39 = nI n) : ∀ (A : List Nat) (k acc fu : Nat), tx_wv A → k + A.length = n → A.length < fu → (∀ j, j < A.length → M 114 (k + j) = z_menc (A.getD j 0)) → f_X10_notsOpen_L4 M fu (nI acc) (nI k) = some (nI (acc + tx_no A)) := by
  intro A
  induction A with
  | nil =>
    intro k acc fu _ hk hf _
    obtain ⟨f, rfl⟩ : ∃ f, fu = f + 1 := ⟨fu - 1, by omega⟩
    simp only [List.length_nil] at hk
    rw [f_X10_notsOpen_L4, h39, if_pos (nI_le (by omega) (by omega))]
    rfl
  | cons x A ih =>
    intro k acc fu hv hk hf hm
    obtain ⟨f, rfl⟩ : ∃ f, fu = f + 1 := ⟨fu - 1, by omega⟩
    simp only [List.length_cons] at hk hf hm
    have hx := hv x List.mem_cons_self
    have e0 : M 114 k = z_menc x := hm 0 (by omega)
    have ih' := fun acc => ih (k + 1) acc f (fun y hy => hv y (List.mem_cons_of_mem _ hy)) (by omega) (by omega) (fun j hj => by
      have := hm (j + 1) (by omega)
      rw [List.getD_cons_succ] at this
      rw [show k + 1 + j = k + (j + 1) by omega]
      exact this)
    rw [f_X10_notsOpen_L4, h39, if_neg (nI_ge (by omega) (by omega)), z_ib (by omega) (by omega), if_pos rfl, nI_clamp (by omega), e0, z_ml, nI_1, tx_no]
    by_cases g : x = 10019
    · rw [if_pos ((tx_noI x hx).mpr g), if_pos g, nI_1, ih' (acc + 1)]
      congr 2
      omega
    · rw [if_neg (fun h => g ((tx_noI x hx).mp h)), if_neg g, l_0, nI_add, ih' (acc + 0)]
      congr 2
      omega
theorem tx_noO {M : Mem} {W : List Nat} (hl : W.length ≤ 96) (hv : tx_wv W) (h : tx_MW W M) : f_X10_notsOpen M = some (nI (tx_no W)) := by
  have hfu : bw_fu = 2000 := rfl
  unfold f_X10_notsOpen
  have := tx_nol hl h.1 W.reverse 0 0 bw_fu (fun y hy => hv y (List.mem_reverse.mp hy)) (by rw [List.length_reverse]; omega) (by rw [List.length_reverse]; omega) (fun j hj => by
    rw [List.length_reverse] at hj
    rw [Nat.zero_add]
    exact tx_wt_get W h.2 j hj)
  rw [tx_no_r, Nat.zero_add] at this
  exact this
