/-! level 2: what both sides keep -/
def z_cenc (x : Nat) : Int32 := if x < 10000 then nI x else if x < 10003 then -(nI (x - 9999)) else
  -(nI (([124, 38, 60, 61, 62, 43, 45, 42, 47, 33] : List Nat).getD (x - 10010) 0))
def z_menc (x : Nat) : Int32 := if x < 10003 then nI x else -(nI (x - 10009))
/-- a code of numbers, names and signs works out to one number -/
def z_twf (nm : Nat) : List Nat → Nat → Prop
  | [], d => d = 1
  | x :: l, d => if x < 10000 + nm then z_twf nm l (d + 1) else if x = 10019 then 1 ≤ d ∧ z_twf nm l d else 10010 ≤ x ∧ x < 10019 ∧ 2 ≤ d ∧ z_twf nm l (d - 1)
def z_ato : List Nat → Nat
  | [] => 0
  | x :: l => (if x < 10003 then 1 else 0) + z_ato l
def z_nms (key : Nat) : Nat := if key = 0 then 3 else 2
def z_lcN (c : Nat) : Nat := 129 + 3 * (c - 1)
theorem z_lc {c : Nat} (h : c < 2 ^ 31) : bw_lc (nI c) = z_lcN c := by simp [bw_lc, z_lcN, nI_clamp h]
abbrev TU : Type := Nat × Nat × List Nat
def z_Law (M : Mem) (u : TU) : Prop := M (z_lcN u.1) 0 = nI u.2.1 ∧ M (z_lcN u.1) 1 = nI (z_ato u.2.2) ∧ M (z_lcN u.1 + 1) 1000 = nI u.2.2.length ∧ M (z_lcN u.1 + 2) 1000 = nI (max 1 (z_ato u.2.2)) ∧ ∀ k, k < u.2.2.length → M (z_lcN u.1 + 1) k = z_cenc (u.2.2.getD k 0)
def z_Tok (u : TU) : Prop := 1 ≤ u.1 ∧ u.1 ≤ 512 ∧ u.2.1 ≤ 2 ∧ u.2.2.length ≤ 96 ∧ z_twf (z_nms u.2.1) u.2.2 0
def z_Txt (M : Mem) (S R t : Nat) (u : TU) : Prop := M (S + 7) t = nI u.1 ∧ z_Tok u ∧ z_Law M u ∧ M R (158 + 2 * t) = nI (1000 * u.2.1 + u.2.2.length) ∧ M R (159 + 2 * t) = nI (z_ato u.2.2) ∧ ∀ k, k < u.2.2.length → M R (186 + 96 * t + k) = z_menc (u.2.2.getD k 0)
def z_WN (s : Nat → Nat) : Prop := s 4 ≤ 24 ∧ s 5 ≤ 12 ∧ s 6 ≤ 14 ∧ s 7 ≤ 6 ∧ 1 ≤ s 1 ∧ s 1 ≤ 999 ∧ s 2 ≤ 9 ∧ 1 ≤ s 3 ∧ s 3 ≤ 999
def z_WB (s : Nat → Nat) : Prop := ∀ i, i < s 4 → 1 ≤ s (14 + 4 * i) ∧ s (14 + 4 * i) ≤ 99 ∧ 1 ≤ s (15 + 4 * i) ∧ s (15 + 4 * i) ≤ 99 ∧ s (16 + 4 * i) ≤ 7 ∧ s (17 + 4 * i) ≤ 1
def z_WD (s : Nat → Nat) : Prop := ∀ i, i < s 5 → s (110 + 4 * i) ≤ 5 ∧ s (111 + 4 * i) ≤ s (112 + 4 * i) ∧ s (112 + 4 * i) < s 4 ∧ s (113 + 4 * i) ≤ 99
def z_WA (s : Nat → Nat) : Prop := ∀ i, i < s 7 → 1 ≤ s (8 + i) ∧ s (8 + i) ≤ 99
def z_CN (M : Mem) (S : Nat) (s : Nat → Nat) : Prop := M S 0 = nI (s 4) ∧ M S 5 = nI (s 1) ∧ M S 6 = nI (s 2) ∧ M S 7 = nI (s 3) ∧ M S 9 = nI (s 5) ∧ M S 11 = nI (s 7) ∧ M S 13 = nI (s 6)
def z_CB (M : Mem) (S : Nat) (s : Nat → Nat) : Prop := ∀ i, i < s 4 → M (S + 1) i = nI (s (14 + 4 * i)) ∧ M (S + 2) i = nI (s (15 + 4 * i)) ∧ M (S + 3) i = nI (s (16 + 4 * i)) ∧ M (S + 4) i = nI (s (17 + 4 * i))
def z_CD (M : Mem) (S : Nat) (s : Nat → Nat) : Prop := ∀ i, i < s 5 → M (S + 8 + i) 0 = nI (s (110 + 4 * i)) ∧ M (S + 8 + i) 1 = nI (s (111 + 4 * i)) ∧ M (S + 8 + i) 2 = nI (s (112 + 4 * i)) ∧ M (S + 8 + i) 3 = nI (s (113 + 4 * i))
def z_CA (M : Mem) (S : Nat) (s : Nat → Nat) : Prop := ∀ i, i < s 7 → M (S + 6) i = nI (s (8 + i))
def z_MR (M : Mem) (R : Nat) (s : Nat → Nat) : Prop := ∀ i, 1 ≤ i → i < 158 → M R i = nI (s i)
def z_W (s : Nat → Nat) : Prop := z_WN s ∧ z_WB s ∧ z_WD s ∧ z_WA s
def z_Stk (M : Mem) (S R : Nat) (s : Nat → Nat) (u : Nat → TU) : Prop := z_W s ∧ z_MR M R s ∧ M S 8 = M R 0 ∧ z_CN M S s ∧ z_CB M S s ∧ z_CD M S s ∧ z_CA M S s ∧ ∀ t, t < s 6 → z_Txt M S R t (u t)
def z_Img (M : Mem) : Prop := M 0 2 = M 93 3 ∧ (M 0 2 = 0 ∨ (M 0 2 = 1 ∧ ∃ s u, z_Stk M 45 95 s u))
def z_Tap (M : Mem) : Prop := ∃ L, L ≤ 96 ∧ M 16 1 = nI L ∧ M 93 26 = nI L ∧ ∀ i, i < L → M 17 i = M 110 i ∧ ∃ b, b < 256 ∧ M 17 i = nI b
def z_Key (M : Mem) : Prop := M 111 = bw_M0 111 ∧ M 112 = bw_M0 112
def z_Sht1 (M : Mem) (k : Nat) : Prop := M (65 + 2 * k) 0 = M 120 k ∧ (M 120 k = -1 ∨ M 120 k = 0 ∨ M 120 k = 1) ∧ (∃ p, p ≤ 24 ∧ M (65 + 2 * k) 1 = nI p ∧ M 121 k = nI p) ∧ ∀ i, i < 24 → M (66 + 2 * k) i = M 122 (24 * k + i)
def z_Sht (M : Mem) : Prop := ∀ k, k < 4 → z_Sht1 M k
def z_Slt1 (M : Mem) (k : Nat) : Prop := M (73 + 4 * k) 0 = M 123 k ∧ ∃ th, th ≤ 3 ∧ M 123 k = nI th ∧ (th = 1 → M (74 + 4 * k) 0 = M 124 k ∧ (∃ j, j ≤ 5 ∧ M 124 k = nI j) ∧ f_X0_worth M (74 + 4 * k) = M 125 k) ∧ (th = 2 → (∃ p, p ≤ 24 ∧ M (75 + 4 * k) 1 = nI p ∧ M 124 k = nI p) ∧ ∀ i, i < 24 → M (76 + 4 * k) i = M 126 (24 * k + i)) ∧ (th = 3 → M (73 + 4 * k) 3 = M 124 k)
def z_Slt (M : Mem) : Prop := ∀ k, k < 5 → z_Slt1 M k
def z_Wai (M : Mem) : Prop := ∃ w, w ≤ 60 ∧ M 0 10 = nI w ∧ M 93 54 = nI w ∧ ∀ i, i < w → M 20 i = M 128 i
def z_Ask (n : Nat) (M : Mem) : Prop := ∃ q, q ≤ n ∧ M 93 13 = nI q ∧ ∀ i, i < 2500 → ∃ p, p ≤ q ∧ M 102 i = nI p
def z_Lok (M : Mem) (x : Int32) : Prop := ∃ j, j ≤ (M 0 1000).toNatClampNeg ∧ x = nI j
def z_Lws (n : Nat) (M : Mem) : Prop := (∃ c, c ≤ n ∧ c ≤ 512 ∧ M 0 1000 = nI c) ∧ (∀ i, i < 14 → z_Lok M (M 32 i) ∧ z_Lok M (M 52 i)) ∧ z_Lok M (M 1 7) ∧ z_Lok M (M 11 3)
def Inv (n : Nat) (M : Mem) : Prop := (∃ s u, z_Stk M 25 94 s u) ∧ z_Img M ∧ z_Tap M ∧ z_Key M ∧ z_Sht M ∧ z_Slt M ∧ z_Wai M ∧ z_Ask n M ∧ z_Lws n M
theorem Inv_mono (n : Nat) (M : Mem) (h : Inv n M) : Inv (n + 1) M := by
  obtain ⟨a, b, c, d, e, f, g, ⟨q, hq, h1, h2⟩, ⟨⟨x, hx, hx2, hx3⟩, h4, h5⟩⟩ := h
  exact ⟨a, b, c, d, e, f, g, ⟨q, by omega, h1, h2⟩, ⟨⟨x, by omega, hx2, hx3⟩, h4, h5⟩⟩
