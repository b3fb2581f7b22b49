def bw_fu : Nat := 2000
theorem bw_kl {M : Mem} {k : Nat} (h : k < 129) : k < bw_nn M := by unfold bw_nn; omega
abbrev bw_iS (S : Nat) : Prop := S = 25 ∨ S = 45
abbrev bw_iB (b : Nat) : Prop := (33 ≤ b ∧ b < 45) ∨ (53 ≤ b ∧ b < 65) ∨ (74 ≤ b ∧ b < 93 ∧ (b - 74) % 4 = 0)
abbrev bw_iT (t : Nat) : Prop := (65 ≤ t ∧ t < 73 ∧ t % 2 = 1) ∨ (75 ≤ t ∧ t < 92 ∧ (t - 75) % 4 = 0)
abbrev bw_iU (u : Nat) : Prop := 73 ≤ u ∧ u < 93 ∧ (u - 73) % 4 = 0
abbrev bw_iM (a : Nat) : Prop := a = 94 ∨ a = 95 ∨ a = 96
theorem shS {w : WE} {S : Nat} (h : bw_iS S) : ∀ r : Nat → Int32, bw_E w S r = .inr (6, [.int (r 0), .ref (bw_ad w (S + 1)), .ref (bw_ad w (S + 2)), .ref (bw_ad w (S + 3)), .ref (bw_ad w (S + 4)), .int (r 5), .int (r 6), .int (r 7), .int (r 8), .int (r 9), .ref (bw_ad w (S + 5)), .int (r 11), .ref (bw_ad w (S + 6)), .int (r 13), .ref (bw_ad w (S + 7))]) := by
  rcases h with rfl | rfl <;> intro r <;> rfl
theorem klS {M : Mem} {S : Nat} (h : bw_iS S) : S < bw_nn M := bw_kl (by omega)
theorem shS1 {w : WE} {S : Nat} (h : bw_iS S) : ∀ r : Nat → Int32, bw_E w (S + 1) r = .inl (bw_ca w 0, 24, .inl r) := by
  rcases h with rfl | rfl <;> intro r <;> rfl
theorem klS1 {M : Mem} {S : Nat} (h : bw_iS S) : S + 1 < bw_nn M := bw_kl (by omega)
theorem shS2 {w : WE} {S : Nat} (h : bw_iS S) : ∀ r : Nat → Int32, bw_E w (S + 2) r = .inl (bw_ca w 0, 24, .inl r) := by
  rcases h with rfl | rfl <;> intro r <;> rfl
theorem klS2 {M : Mem} {S : Nat} (h : bw_iS S) : S + 2 < bw_nn M := bw_kl (by omega)
theorem shS3 {w : WE} {S : Nat} (h : bw_iS S) : ∀ r : Nat → Int32, bw_E w (S + 3) r = .inl (bw_ca w 0, 24, .inl r) := by
  rcases h with rfl | rfl <;> intro r <;> rfl
theorem klS3 {M : Mem} {S : Nat} (h : bw_iS S) : S + 3 < bw_nn M := bw_kl (by omega)
theorem shS4 {w : WE} {S : Nat} (h : bw_iS S) : ∀ r : Nat → Int32, bw_E w (S + 4) r = .inl (bw_ca w 1, 24, .inl r) := by
  rcases h with rfl | rfl <;> intro r <;> rfl
theorem klS4 {M : Mem} {S : Nat} (h : bw_iS S) : S + 4 < bw_nn M := bw_kl (by omega)
theorem shS5 {w : WE} {S : Nat} (h : bw_iS S) : ∀ r : Nat → Int32, bw_E w (S + 5) r = .inl (bw_ca w 3, 12, .inr (.inr (.inr (.inr (fun i => some (bw_ad w (S + 8 + i))))))) := by
  rcases h with rfl | rfl <;> intro r <;> rfl
theorem klS5 {M : Mem} {S : Nat} (h : bw_iS S) : S + 5 < bw_nn M := bw_kl (by omega)
theorem shS6 {w : WE} {S : Nat} (h : bw_iS S) : ∀ r : Nat → Int32, bw_E w (S + 6) r = .inl (bw_ca w 0, 6, .inl r) := by
  rcases h with rfl | rfl <;> intro r <;> rfl
theorem klS6 {M : Mem} {S : Nat} (h : bw_iS S) : S + 6 < bw_nn M := bw_kl (by omega)
theorem shS7 {w : WE} {S : Nat} (h : bw_iS S) : ∀ r : Nat → Int32, bw_E w (S + 7) r = .inl (bw_ca w 4, 14, .inr (.inr (.inr (.inr (fun i => bw_lr w (r i)))))) := by
  rcases h with rfl | rfl <;> intro r <;> rfl
theorem klS7 {M : Mem} {S : Nat} (h : bw_iS S) : S + 7 < bw_nn M := bw_kl (by omega)
theorem shB {w : WE} {b : Nat} (h : bw_iB b) : ∀ r : Nat → Int32, bw_E w b r = .inr (0, [.int (r 0), .int (r 1), .int (r 2), .int (r 3)]) := by
  have e : b = 33 ∨ b = 34 ∨ b = 35 ∨ b = 36 ∨ b = 37 ∨ b = 38 ∨ b = 39 ∨ b = 40 ∨ b = 41 ∨ b = 42 ∨ b = 43 ∨ b = 44 ∨ b = 53 ∨ b = 54 ∨ b = 55 ∨ b = 56 ∨ b = 57 ∨ b = 58 ∨ b = 59 ∨ b = 60 ∨ b = 61 ∨ b = 62 ∨ b = 63 ∨ b = 64 ∨ b = 74 ∨ b = 78 ∨ b = 82 ∨ b = 86 ∨ b = 90 := by omega
  rcases e with rfl | rfl | rfl | rfl | rfl | rfl | rfl | rfl | rfl | rfl | rfl | rfl | rfl | rfl | rfl | rfl | rfl | rfl | rfl | rfl | rfl | rfl | rfl | rfl | rfl | rfl | rfl | rfl | rfl <;> intro r <;> rfl
theorem klB {M : Mem} {b : Nat} (h : bw_iB b) : b < bw_nn M := bw_kl (by omega)
theorem shT {w : WE} {t : Nat} (h : bw_iT t) : ∀ r : Nat → Int32, bw_E w t r = .inr (4, [.int (r 0), .int (r 1), .ref (bw_ad w (t + 1))]) := by
  have e : t = 65 ∨ t = 67 ∨ t = 69 ∨ t = 71 ∨ t = 75 ∨ t = 79 ∨ t = 83 ∨ t = 87 ∨ t = 91 := by omega
  rcases e with rfl | rfl | rfl | rfl | rfl | rfl | rfl | rfl | rfl <;> intro r <;> rfl
theorem shT1 {w : WE} {t : Nat} (h : bw_iT t) : ∀ r : Nat → Int32, bw_E w (t + 1) r = .inl (bw_ca w 0, 24, .inl r) := by
  have e : t = 65 ∨ t = 67 ∨ t = 69 ∨ t = 71 ∨ t = 75 ∨ t = 79 ∨ t = 83 ∨ t = 87 ∨ t = 91 := by omega
  rcases e with rfl | rfl | rfl | rfl | rfl | rfl | rfl | rfl | rfl <;> intro r <;> rfl
theorem klT {M : Mem} {t : Nat} (h : bw_iT t) : t < bw_nn M := bw_kl (by omega)
theorem kT1 {t : Nat} (h : bw_iT t) : t + 1 < 129 := by omega
theorem klT1 {M : Mem} {t : Nat} (h : bw_iT t) : t + 1 < bw_nn M := bw_kl (by omega)
theorem shU {w : WE} {u : Nat} (h : bw_iU u) : ∀ r : Nat → Int32, bw_E w u r = .inr (5, [.int (r 0), .ref (bw_ad w (u + 1)), .ref (bw_ad w (u + 2)), .int (r 3)]) := by
  have e : u = 73 ∨ u = 77 ∨ u = 81 ∨ u = 85 ∨ u = 89 := by omega
  rcases e with rfl | rfl | rfl | rfl | rfl <;> intro r <;> rfl
theorem klU {M : Mem} {u : Nat} (h : bw_iU u) : u < bw_nn M := bw_kl (by omega)
theorem shM {w : WE} {a : Nat} (h : bw_iM a) : ∀ r : Nat → Int32, bw_E w a r = .inl (bw_ca w 0, 1530, .inl r) := by
  rcases h with rfl | rfl | rfl <;> intro r <;> rfl
theorem klM {M : Mem} {a : Nat} (h : bw_iM a) : a < bw_nn M := bw_kl (by omega)
theorem iB_n {j : Nat} (h : j < 12) : bw_iB (33 + j) := by unfold bw_iB; omega
theorem iB_i {j : Nat} (h : j < 12) : bw_iB (53 + j) := by unfold bw_iB; omega
theorem iB_S {S j : Nat} (hS : bw_iS S) (h : j < 12) : bw_iB (S + 8 + j) := by unfold bw_iB; unfold bw_iS at hS; omega
theorem iT_a {j : Nat} (h : j < 4) : bw_iT (65 + 2 * j) := by unfold bw_iT; omega
theorem iU_a {j : Nat} (h : j < 5) : bw_iU (73 + 4 * j) := by unfold bw_iU; omega
theorem iB_U {u : Nat} (h : bw_iU u) : bw_iB (u + 1) := by unfold bw_iB; unfold bw_iU at h; omega
theorem iT_U {u : Nat} (h : bw_iU u) : bw_iT (u + 2) := by unfold bw_iT; unfold bw_iU at h; omega
/-! laws -/
def bw_lok (M : Mem) (c : Int32) : Bool := decide (¬ c = 0) && decide (0 ≤ c) && decide (c.toNatClampNeg ≤ (M 0 1000).toNatClampNeg)
def bw_lk0 (M : Mem) (c : Int32) : Bool := decide (c = 0) || bw_lok M c
theorem bw_lok_s {M : Mem} {c : Int32} (h : bw_lok M c = true) : ¬ c = 0 ∧ 1 ≤ c.toNatClampNeg ∧ c.toNatClampNeg ≤ (M 0 1000).toNatClampNeg := by
  simp only [bw_lok, Bool.and_eq_true, decide_eq_true_eq] at h
  obtain ⟨⟨h1, h2⟩, h3⟩ := h
  refine ⟨h1, ?_, h3⟩
  rw [Int32.le_iff_toInt_le] at h2
  have e : c.toNatClampNeg = c.toInt.toNat := rfl
  have h0 : ¬ c.toInt = 0 := fun q => h1 (Int32.toInt_inj.mp (by rw [q]; rfl))
  have z : (0 : Int32).toInt = 0 := rfl
  omega
theorem bw_lok_k {M : Mem} {c : Int32} (h : bw_lok M c = true) {j : Nat} (hj : j < 3) : bw_lc c + j < bw_nn M := by
  obtain ⟨-, h1, h2⟩ := bw_lok_s h
  unfold bw_lc bw_nn
  omega
theorem bw_lr_s {w : WE} {M : Mem} {c : Int32} (h : bw_lok M c = true) : bw_lr w c = some (bw_ad w (bw_lc c)) := by
  unfold bw_lr
  rw [if_neg (bw_lok_s h).1]
theorem bw_st_n {k : Nat} (h : 129 ≤ k) : bw_st[k]? = none := List.getElem?_eq_none (show bw_st.length ≤ k from h)
theorem shL {w : WE} (c : Int32) : ∀ r : Nat → Int32, bw_E w (bw_lc c) r = .inr (1, [.int (r 0), .int (r 1), .ref (bw_ad w (bw_lc c + 1)), .ref (bw_ad w (bw_lc c + 2))]) := by
  intro r
  have e : (bw_lc c - 129) % 3 = 0 := by unfold bw_lc; omega
  unfold bw_E
  rw [bw_st_n (show 129 ≤ bw_lc c by unfold bw_lc; omega)]
  show bw_lw w (bw_lc c) r = _
  unfold bw_lw
  rw [if_pos e]
theorem shLa {w : WE} (c : Int32) {j : Nat} (hj : j = 1 ∨ j = 2) : ∀ r : Nat → Int32, bw_E w (bw_lc c + j) r = .inl (bw_ca w 0, (r 1000).toNatClampNeg, .inl r) := by
  intro r
  have e : ¬ (bw_lc c + j - 129) % 3 = 0 := by unfold bw_lc; omega
  unfold bw_E
  rw [bw_st_n (show 129 ≤ bw_lc c + j by unfold bw_lc; omega)]
  show bw_lw w (bw_lc c + j) r = _
  unfold bw_lw
  rw [if_neg e]
theorem bw_rfv (x : Option Nat) : va_rf x = .null ∨ ∃ a, va_rf x = .ref a := by
  cases x with
  | none => exact Or.inl rfl
  | some a => exact Or.inr ⟨a, rfl⟩
/-! booleans -/
theorem bw_n0 : narrow .boolean (.int 0) = .int 0 := by decide
theorem bw_n1 : narrow .boolean (.int 1) = .int 1 := by decide
def bw_bz0 (v : Int32) : Bool := decide (v &&& 1 = v)
theorem bw_bzt {v : Int32} (h : bw_bz0 v = true) : narrow .boolean (.int v) = .int v := by
  simp only [bw_bz0, decide_eq_true_eq] at h
  show Value.int (v &&& 1) = _
  rw [h]
theorem bw_bz1 {v : Int32} (h : narrow .boolean (.int v) = .int v) : v &&& 1 = v := by
  have h1 : Value.int (v &&& 1) = .int v := h
  injection h1
theorem bw_bz2 {v : Int32} (h : narrow .boolean (.int v) = .int v) : v = 0 ∨ v = 1 := by
  have h1 := bw_bz1 h
  obtain ⟨j, hj, e⟩ := pk_andE v (m := 1) 1 (by decide)
  rw [h1] at e
  subst e
  rcases (show j = 0 ∨ j = 1 by omega) with rfl | rfl
  · exact Or.inl rfl
  · exact Or.inr rfl
theorem bw_bzf {v : Int32} (h : narrow .boolean (.int v) = .int v) : fits .boolean (.int v) = true := by
  rcases bw_bz2 h with rfl | rfl <;> rfl
def bw_pz (v : Int32) (M1 : Mem) : Option Value → Mem → Prop := fun r M => r = some (.int v) ∧ M = M1 ∧ narrow .boolean (.int v) = .int v
theorem bw_kkz {Rr : List Value → Mem → Prop} {v : Int32} {M1 : Mem} {st : List Value} (k : narrow .boolean (.int v) = .int v → Rr (.int v :: st) M1) : ∀ (r : Option Value) (M : Mem), bw_pz v M1 r M → Rr (r.toList ++ st) M := by
  intro r M h
  obtain ⟨rfl, rfl, hz⟩ := h
  exact k hz
/-! rows replaced whole -/
def bw_row (M : Mem) (k : Nat) (r : Nat → Int32) : Mem := fun b => if b = k then r else M b
def bw_fill (M : Mem) (k n : Nat) (v : Int32) : Mem := bw_row M k (fun j => if j < n then v else M k j)
def bw_cpy (M : Mem) (k0 : Nat) (sp : Int32) (k1 : Nat) (dp n : Int32) : Mem := bw_row M k1 (va_cpy (M k0) (M k1) sp.toNatClampNeg dp.toNatClampNeg n.toNatClampNeg)
def bw_cpok (sp dp n : Int32) (n0 n1 : Nat) : Bool := decide (0 ≤ sp) && decide (0 ≤ dp) && decide (0 ≤ n) && decide (sp.toNatClampNeg + n.toNatClampNeg ≤ n0) && decide (dp.toNatClampNeg + n.toNatClampNeg ≤ n1)
theorem bw_nn_row {M : Mem} {k : Nat} {r : Nat → Int32} (hg : ¬ k = 0) : bw_nn (bw_row M k r) = bw_nn M := by
  have e : bw_row M k r 0 1000 = M 0 1000 := by
    unfold bw_row
    rw [if_neg (fun q => hg q.symm)]
  unfold bw_nn
  rw [e]
theorem bw_setR {w : WE} {M : Mem} {k : Nat} {r : Nat → Int32} {e : va_E} (hg : ¬ k = 0) (he : bw_E w k r = e) : (bw_W w M).set k (bw_ad w k, e) = bw_W w (bw_row M k r) := by
  subst he
  have hN := bw_nn_row (M := M) (r := r) hg
  apply List.ext_getElem?
  intro j
  rw [List.getElem?_set]
  by_cases hj : k = j
  · subst hj
    rw [if_pos rfl]
    by_cases hk : k < bw_nn M
    · rw [if_pos (by simpa [bw_W] using hk), bw_get (by rw [hN]; exact hk)]
      simp [bw_row]
    · rw [if_neg (by simpa [bw_W] using hk)]
      symm
      apply List.getElem?_eq_none
      simpa [bw_W, hN] using hk
  · rw [if_neg hj]
    by_cases hk : j < bw_nn M
    · rw [bw_get hk, bw_get (by rw [hN]; exact hk)]
      simp [bw_row, Ne.symm hj]
    · rw [List.getElem?_eq_none (by simpa [bw_W] using hk), List.getElem?_eq_none (by simpa [bw_W, hN] using hk)]
section RWT
variable {w : WE} {d cu su mc ms : Nat} {cc : ByteArray} {own : String} {nL : Nat} {ret : Option FieldType} {Z : Option Value → Heap → Prop} {pc : Nat} {lv : List (Nat × Value)} {st : List Value} {M : Mem}
theorem rw_inc {i : Nat} {x : Int32} (hd : decode cc pc = .ok (.iinc i 1, 3)) (hx : lv.lookup i = some (.int x)) (hn : i < nL) (k : RW w d cu su mc ms cc own nL ret Z (pc + 3) ((i, .int (x + 1)) :: lv) st M) : RW w d cu su mc ms cc own nL ret Z pc lv st M := rw_iinc (v := x + 1) hd hx (by rw [show Int32.ofInt 1 = 1 from by decide]) hn k
theorem rw_dec {i : Nat} {x : Int32} (hd : decode cc pc = .ok (.iinc i (-1), 3)) (hx : lv.lookup i = some (.int x)) (hn : i < nL) (k : RW w d cu su mc ms cc own nL ret Z (pc + 3) ((i, .int (x - 1)) :: lv) st M) : RW w d cu su mc ms cc own nL ret Z pc lv st M := rw_iinc (v := x - 1) hd hx (by rw [show Int32.ofInt (-1) = -1 from by decide, Int32.sub_eq_add_neg]) hn k
theorem rw_nullL (hd : decode cc pc = .ok (.aconst_null, 1)) (k : RW w d cu su mc ms cc own nL ret Z (pc + 1) lv (va_rf (bw_lr w 0) :: st) M) : RW w d cu su mc ms cc own nL ret Z pc lv st M := rw_null hd k
theorem rw_puti {k j ci idx : Nat} {x : Int32} {F : (Nat → Int32) → List Value} (hd : decode cc pc = .ok (.putfield idx, 3)) (hf : bw_FL own idx ci j) (hq : bw_FP ci j .int) (hsh : ∀ r, bw_E w k r = .inr (ci, F r)) (hk : k < bw_nn M) (hj : j < 1000) (hset : ∀ r, F (upd r j x) = (F r).set j (.int x)) (hlen : ∀ r, j < (F r).length) (kk : RW w d cu su mc ms cc own nL ret Z (pc + 3) lv st (bw_up M k j x)) : RW w d cu su mc ms cc own nL ret Z pc lv (.int x :: .ref (bw_ad w k) :: st) M := rw_put hd hf hq hsh hk rfl rfl hj hset hlen kk
theorem rw_putz {k j ci idx : Nat} {x : Int32} {F : (Nat → Int32) → List Value} (hd : decode cc pc = .ok (.putfield idx, 3)) (hf : bw_FL own idx ci j) (hq : bw_FP ci j .boolean) (hsh : ∀ r, bw_E w k r = .inr (ci, F r)) (hk : k < bw_nn M) (hn : narrow .boolean (.int x) = .int x) (hj : j < 1000) (hset : ∀ r, F (upd r j x) = (F r).set j (.int x)) (hlen : ∀ r, j < (F r).length) (kk : RW w d cu su mc ms cc own nL ret Z (pc + 3) lv st (bw_up M k j x)) : RW w d cu su mc ms cc own nL ret Z pc lv (.int x :: .ref (bw_ad w k) :: st) M := rw_put hd hf hq hsh hk hn (bw_bzf hn) hj hset hlen kk
theorem rw_putl {k j ci idx : Nat} {x : Int32} {Cn : String} {F : (Nat → Int32) → List Value} (hd : decode cc pc = .ok (.putfield idx, 3)) (hf : bw_FL own idx ci j) (hq : bw_FP ci j (.object Cn)) (hsh : ∀ r, bw_E w k r = .inr (ci, F r)) (hk : k < bw_nn M) (hj : j < 1000) (hset : ∀ r, F (upd r j x) = (F r).set j (va_rf (bw_lr w x))) (hlen : ∀ r, j < (F r).length) (kk : RW w d cu su mc ms cc own nL ret Z (pc + 3) lv st (bw_up M k j x)) : RW w d cu su mc ms cc own nL ret Z pc lv (va_rf (bw_lr w x) :: .ref (bw_ad w k) :: st) M := rw_put hd hf hq hsh hk (by cases bw_lr w x <;> rfl) (by cases bw_lr w x <;> rfl) hj hset hlen kk
theorem rw_aaldR {k n ty : Nat} {i : Int32} {g : Nat → Nat} {Cn : String} (hd : decode cc pc = .ok (.aaload, 1)) (hsh : ∀ r, bw_E w k r = .inl (bw_ca w ty, n, .inr (.inr (.inr (.inr (fun i => some (bw_ad w (g i)))))))) (ht : (bw_T w)[ty]? = some (bw_ca w ty, .object Cn)) (hk : k < bw_nn M) (hin : vp_in i n) (kk : RW w d cu su mc ms cc own nL ret Z (pc + 1) lv (.ref (bw_ad w (g i.toNatClampNeg)) :: st) M) : RW w d cu su mc ms cc own nL ret Z pc lv (.int i :: .ref (bw_ad w k) :: st) M := rw_aald (f := fun _ i => some (bw_ad w (g i))) hd hsh ht hk hin kk
theorem rw_aaldL {k n : Nat} {i : Int32} (hd : decode cc pc = .ok (.aaload, 1)) (hsh : ∀ r, bw_E w k r = .inl (bw_ca w 4, n, .inr (.inr (.inr (.inr (fun i => bw_lr w (r i))))))) (hk : k < bw_nn M) (hin : vp_in i n) (kk : RW w d cu su mc ms cc own nL ret Z (pc + 1) lv (va_rf (bw_lr w (M k i.toNatClampNeg)) :: st) M) : RW w d cu su mc ms cc own nL ret Z pc lv (.int i :: .ref (bw_ad w k) :: st) M := rw_aald (f := fun r i => bw_lr w (r i)) hd hsh rfl hk hin kk
theorem rw_aastL {k : Nat} {i v : Int32} (hd : decode cc pc = .ok (.aastore, 1)) (hsh : ∀ r, bw_E w k r = .inl (bw_ca w 4, 14, .inr (.inr (.inr (.inr (fun i => bw_lr w (r i))))))) (hk : k < bw_nn M) (hin : vp_in i 14) (hv0 : bw_lk0 M v = true) (kk : RW w d cu su mc ms cc own nL ret Z (pc + 1) lv st (bw_up M k i.toNatClampNeg v)) : RW w d cu su mc ms cc own nL ret Z pc lv (va_rf (bw_lr w v) :: .int i :: .ref (bw_ad w k) :: st) M := by
  intro p l e s m args below meth c H locs ls C hu hv hP hD hS hl
  have eU : va_up (fun i => bw_lr w (M k i)) i.toNatClampNeg (bw_lr w v) = fun j => bw_lr w (upd (M k) i.toNatClampNeg v j) := by
    funext j
    unfold va_up upd
    by_cases h : j = i.toNatClampNeg
    · rw [if_pos h, if_pos h]
    · rw [if_neg h, if_neg h]
  have hE : bw_E w k (upd (M k) i.toNatClampNeg v) = .inl (bw_ca w 4, 14, .inr (.inr (.inr (.inr (va_up (fun i => bw_lr w (M k i)) i.toNatClampNeg (bw_lr w v)))))) := by rw [hsh, eU]
  have hs := bw_set (w := w) (M := M) (k := k) (i := i.toNatClampNeg) (x := v) (bw_ng hsh) hE
  simp only [bw_lk0, Bool.or_eq_true, decide_eq_true_eq] at hv0
  rcases hv0 with h0 | h0
  · subst h0
    have e0 : bw_lr w 0 = none := rfl
    rw [e0] at hs ⊢
    refine va_astqN C.1 C.2.1 C.2.2.2.2.2.2.2.1 hP hD hS k 4 (by rw [bw_get hk, hsh]) rfl hin hd (fun H1 locs1 hP1 hD1 hS1 => ?_)
    rw [hs] at hP1 hD1
    exact kk p l e s m args below meth c H1 locs1 ls C hu hv hP1 hD1 hS1 hl
  · rw [bw_lr_s h0] at hs ⊢
    have hq : bw_lc v < bw_nn M := bw_lok_k h0 (j := 0) (by decide)
    refine va_astq (r := (RX1, TX1, 4)) C.1 C.2.1 C.2.2.2.2.2.2.2.1 hP hD hS k 4 (bw_lc v) 1 (by rw [bw_get hk, hsh]) rfl (by rw [bw_get hq, shL]) rfl hin hd (fun H1 locs1 hP1 hD1 hS1 => ?_)
    rw [hs] at hP1 hD1
    exact kk p l e s m args below meth c H1 locs1 ls C hu hv hP1 hD1 hS1 hl
theorem rw_getL {x : Int32} {j idx : Nat} {v : Value} (hd : decode cc pc = .ok (.getfield idx, 3)) (hf : bw_FL own idx 1 j) (hL : bw_lok M x = true) (hv0 : ([.int (M (bw_lc x) 0), .int (M (bw_lc x) 1), .ref (bw_ad w (bw_lc x + 1)), .ref (bw_ad w (bw_lc x + 2))] : List Value)[j]? = some v) (kk : RW w d cu su mc ms cc own nL ret Z (pc + 3) lv (v :: st) M) : RW w d cu su mc ms cc own nL ret Z pc lv (va_rf (bw_lr w x) :: st) M := by
  rw [bw_lr_s hL]
  exact rw_get hd hf (shL x) (bw_lok_k hL (j := 0) (by decide)) hv0 kk
theorem rw_alenL1 {x : Int32} (hd : decode cc pc = .ok (.arraylength, 1)) (hL : bw_lok M x = true) (kk : RW w d cu su mc ms cc own nL ret Z (pc + 1) lv (.int (nI (M (bw_lc x + 1) 1000).toNatClampNeg) :: st) M) : RW w d cu su mc ms cc own nL ret Z pc lv (.ref (bw_ad w (bw_lc x + 1)) :: st) M := by
  intro p l e s m args below meth c H locs ls C hu hv hP hD hS hl
  exact va_alen (x := ((M (bw_lc x + 1) 1000).toNatClampNeg, .inl (M (bw_lc x + 1)))) C.1 C.2.1 C.2.2.2.2.2.2.2.1 hP (bw_lc x + 1) 0 (by rw [bw_get (bw_lok_k hL (j := 1) (by decide)), shLa x (by decide)]) rfl rfl hd (kk p l e s m args below meth c H locs ls C hu hv hP hD hS hl)
theorem rw_ialdL1 {x i : Int32} (hd : decode cc pc = .ok (.iaload, 1)) (hL : bw_lok M x = true) (hin : vp_in i (M (bw_lc x + 1) 1000).toNatClampNeg) (kk : RW w d cu su mc ms cc own nL ret Z (pc + 1) lv (.int (M (bw_lc x + 1) i.toNatClampNeg) :: st) M) : RW w d cu su mc ms cc own nL ret Z pc lv (.int i :: .ref (bw_ad w (bw_lc x + 1)) :: st) M := by
  intro p l e s m args below meth c H locs ls C hu hv hP hD hS hl
  exact va_iald C.1 C.2.1 C.2.2.2.2.2.2.2.1 hP (bw_lc x + 1) 0 (by rw [bw_get (bw_lok_k hL (j := 1) (by decide)), shLa x (by decide)]) rfl hin hd (kk p l e s m args below meth c H locs ls C hu hv hP hD hS hl)
theorem rw_iastL1 {x i y : Int32} (hd : decode cc pc = .ok (.iastore, 1)) (hL : bw_lok M x = true) (hin : vp_in i (M (bw_lc x + 1) 1000).toNatClampNeg) (hi : i.toNatClampNeg < 1000) (kk : RW w d cu su mc ms cc own nL ret Z (pc + 1) lv st (bw_up M (bw_lc x + 1) i.toNatClampNeg y)) : RW w d cu su mc ms cc own nL ret Z pc lv (.int y :: .int i :: .ref (bw_ad w (bw_lc x + 1)) :: st) M := by
  intro p l e s m args below meth c H locs ls C hu hv hP hD hS hl
  refine va_iast C.1 C.2.1 C.2.2.2.2.2.2.2.1 hP hD hS (bw_lc x + 1) 0 (by rw [bw_get (bw_lok_k hL (j := 1) (by decide)), shLa x (by decide)]) rfl hin hd (fun H1 locs1 hP1 hD1 hS1 => ?_)
  have e1 : upd (M (bw_lc x + 1)) i.toNatClampNeg y 1000 = M (bw_lc x + 1) 1000 := by
    unfold upd
    rw [if_neg (by omega)]
  have hs := bw_set (w := w) (M := M) (k := bw_lc x + 1) (i := i.toNatClampNeg) (x := y) (e := .inl (bw_ca w 0, (M (bw_lc x + 1) 1000).toNatClampNeg, .inl (upd (M (bw_lc x + 1)) i.toNatClampNeg y))) (by unfold bw_lc; omega) (by rw [shLa x (by decide), e1])
  rw [hs] at hP1 hD1
  exact kk p l e s m args below meth c H1 locs1 ls C hu hv hP1 hD1 hS1 hl
theorem rw_alenL2 {x : Int32} (hd : decode cc pc = .ok (.arraylength, 1)) (hL : bw_lok M x = true) (kk : RW w d cu su mc ms cc own nL ret Z (pc + 1) lv (.int (nI (M (bw_lc x + 2) 1000).toNatClampNeg) :: st) M) : RW w d cu su mc ms cc own nL ret Z pc lv (.ref (bw_ad w (bw_lc x + 2)) :: st) M := by
  intro p l e s m args below meth c H locs ls C hu hv hP hD hS hl
  exact va_alen (x := ((M (bw_lc x + 2) 1000).toNatClampNeg, .inl (M (bw_lc x + 2)))) C.1 C.2.1 C.2.2.2.2.2.2.2.1 hP (bw_lc x + 2) 0 (by rw [bw_get (bw_lok_k hL (j := 2) (by decide)), shLa x (by decide)]) rfl rfl hd (kk p l e s m args below meth c H locs ls C hu hv hP hD hS hl)
theorem rw_ialdL2 {x i : Int32} (hd : decode cc pc = .ok (.iaload, 1)) (hL : bw_lok M x = true) (hin : vp_in i (M (bw_lc x + 2) 1000).toNatClampNeg) (kk : RW w d cu su mc ms cc own nL ret Z (pc + 1) lv (.int (M (bw_lc x + 2) i.toNatClampNeg) :: st) M) : RW w d cu su mc ms cc own nL ret Z pc lv (.int i :: .ref (bw_ad w (bw_lc x + 2)) :: st) M := by
  intro p l e s m args below meth c H locs ls C hu hv hP hD hS hl
  exact va_iald C.1 C.2.1 C.2.2.2.2.2.2.2.1 hP (bw_lc x + 2) 0 (by rw [bw_get (bw_lok_k hL (j := 2) (by decide)), shLa x (by decide)]) rfl hin hd (kk p l e s m args below meth c H locs ls C hu hv hP hD hS hl)
theorem rw_iastL2 {x i y : Int32} (hd : decode cc pc = .ok (.iastore, 1)) (hL : bw_lok M x = true) (hin : vp_in i (M (bw_lc x + 2) 1000).toNatClampNeg) (hi : i.toNatClampNeg < 1000) (kk : RW w d cu su mc ms cc own nL ret Z (pc + 1) lv st (bw_up M (bw_lc x + 2) i.toNatClampNeg y)) : RW w d cu su mc ms cc own nL ret Z pc lv (.int y :: .int i :: .ref (bw_ad w (bw_lc x + 2)) :: st) M := by
  intro p l e s m args below meth c H locs ls C hu hv hP hD hS hl
  refine va_iast C.1 C.2.1 C.2.2.2.2.2.2.2.1 hP hD hS (bw_lc x + 2) 0 (by rw [bw_get (bw_lok_k hL (j := 2) (by decide)), shLa x (by decide)]) rfl hin hd (fun H1 locs1 hP1 hD1 hS1 => ?_)
  have e1 : upd (M (bw_lc x + 2)) i.toNatClampNeg y 1000 = M (bw_lc x + 2) 1000 := by
    unfold upd
    rw [if_neg (by omega)]
  have hs := bw_set (w := w) (M := M) (k := bw_lc x + 2) (i := i.toNatClampNeg) (x := y) (e := .inl (bw_ca w 0, (M (bw_lc x + 2) 1000).toNatClampNeg, .inl (upd (M (bw_lc x + 2)) i.toNatClampNeg y))) (by unfold bw_lc; omega) (by rw [shLa x (by decide), e1])
  rw [hs] at hP1 hD1
  exact kk p l e s m args below meth c H1 locs1 ls C hu hv hP1 hD1 hS1 hl
theorem bw_lr_n {v : Int32} (h : bw_lr w v = none) : v = 0 := by
  unfold bw_lr at h
  by_cases e : v = 0
  · exact e
  · rw [if_neg e] at h; cases h
theorem bw_lr_0 {v : Int32} (h : ¬ bw_lr w v = none) : ¬ v = 0 := fun e => h (by rw [e]; rfl)
theorem rw_ifnullL {v : Int32} {off : Int} {tgt : Nat} (hd : decode cc pc = .ok (.ifnull off, 3)) (ht : (pc : Int) + off = (tgt : Int)) (kt : v = 0 → RW w d cu su mc ms cc own nL ret Z tgt lv st M) (kf : ¬ v = 0 → RW w d cu su mc ms cc own nL ret Z (pc + 3) lv st M) : RW w d cu su mc ms cc own nL ret Z pc lv (va_rf (bw_lr w v) :: st) M := rw_ifnull hd ht (fun q => kt (bw_lr_n q)) (fun q => kf (bw_lr_0 q))
theorem rw_ifnonnullL {v : Int32} {off : Int} {tgt : Nat} (hd : decode cc pc = .ok (.ifnonnull off, 3)) (ht : (pc : Int) + off = (tgt : Int)) (kt : ¬ v = 0 → RW w d cu su mc ms cc own nL ret Z tgt lv st M) (kf : v = 0 → RW w d cu su mc ms cc own nL ret Z (pc + 3) lv st M) : RW w d cu su mc ms cc own nL ret Z pc lv (va_rf (bw_lr w v) :: st) M := rw_ifnonnull hd ht (fun q => kt (bw_lr_0 q)) (fun q => kf (bw_lr_n q))
theorem rw_gabove {idx : Nat} (hd : decode cc pc = .ok (.getstatic idx, 3)) (hf : Cond.fieldLink own idx RX9 "ABOVE" "[I" ∈ lw_gd) (kk : RW w d cu su mc ms cc own nL ret Z (pc + 3) lv (.ref (bw_oa w 0) :: st) M) : RW w d cu su mc ms cc own nL ret Z pc lv st M := by
  intro p l e s m args below meth c H locs ls C hu hv hP hD hS hl
  exact va_gets C.1 C.2.1 C.2.2.2.2.2.2.2.2.2.1 hS C.2.2.2.1 (C.2.2.2.2.1 _ hf) (fun _ h => h) hd (kk p l e s m args below meth c H locs ls C hu hv hP hD hS hl)
theorem rw_ablen (hd : decode cc pc = .ok (.arraylength, 1)) (kk : RW w d cu su mc ms cc own nL ret Z (pc + 1) lv (.int 6 :: st) M) : RW w d cu su mc ms cc own nL ret Z pc lv (.ref (bw_oa w 0) :: st) M := by
  intro p l e s m args below meth c H locs ls C hu hv hP hD hS hl
  exact va_tlen (v := 6) C.1 C.2.1 C.2.2.2.2.2.2.2.2.2.2.1 hS (by decide) hd (kk p l e s m args below meth c H locs ls C hu hv hP hD hS hl)
theorem rw_abld {i : Int32} (hd : decode cc pc = .ok (.iaload, 1)) (hin : vp_in i 6) (kk : RW w d cu su mc ms cc own nL ret Z (pc + 1) lv (.int (bw_ab i.toNatClampNeg) :: st) M) : RW w d cu su mc ms cc own nL ret Z pc lv (.int i :: .ref (bw_oa w 0) :: st) M := by
  intro p l e s m args below meth c H locs ls C hu hv hP hD hS hl
  exact va_ti C.1 C.2.1 C.2.2.2.2.2.2.2.2.2.2.1 hS hin rfl hd (kk p l e s m args below meth c H locs ls C hu hv hP hD hS hl)
theorem rw_ldcS {idx i : Nat} {tx : String} (hd : decode cc pc = .ok (.ldc idx, 2)) (ho : own = RX3) (h6 : bw_six[i]? = some (idx, tx)) (kk : RW w d cu su mc ms cc own nL ret Z (pc + 2) lv (.ref (bw_oa w (1 + i)) :: st) M) : RW w d cu su mc ms cc own nL ret Z pc lv st M := by
  subst ho
  intro p l e s m args below meth c H locs ls C hu hv hP hD hS hl
  exact va_ldcS C.1 C.2.1 C.2.2.2.1 (C.2.2.2.2.2.2.2.2.2.2.2.2.2.1 i _ h6) hd (kk p l e s m args below meth c H locs ls C hu hv hP hD hS hl)
theorem bw_ge0 {x : Int32} (h : 0 ≤ x) : ¬ x < 0 := Int32.not_lt.mpr h
theorem rw_acopy {idx k0 k1 n0 n1 : Nat} {sp dp n : Int32} (hd : decode cc pc = .ok (.invokestatic idx, 3)) (hl0 : Cond.methodLink own idx arraycopyName ∈ lw_gd) (hw : Cond.native arraycopyName ∈ lw_gd ∧ Cond.static arraycopyName ∈ lw_gd ∧ Cond.initialized "java/lang/System" ∈ lw_gd) (hsh0 : ∀ r, bw_E w k0 r = .inl (bw_ca w 0, n0, .inl r)) (hk0 : k0 < bw_nn M) (hsh1 : ∀ r, bw_E w k1 r = .inl (bw_ca w 0, n1, .inl r)) (hk1 : k1 < bw_nn M) (hok : bw_cpok sp dp n n0 n1 = true) (hdd : 1 ≤ d) (hst : (st.map fun v => v.category).sum ≤ 8) (kk : RW w d cu su mc ms cc own nL ret Z (pc + 3) lv st (bw_cpy M k0 sp k1 dp n)) : RW w d cu su mc ms cc own nL ret Z pc lv (.int n :: .int dp :: .ref (bw_ad w k1) :: .int sp :: .ref (bw_ad w k0) :: st) M := by
  intro p l e s m args below meth c H locs ls C hu hv hP hD hS hl
  simp only [bw_cpok, Bool.and_eq_true, decide_eq_true_eq] at hok
  obtain ⟨⟨⟨⟨h1, h2⟩, h3⟩, h4⟩, h5⟩ := hok
  have hts := C.2.2.2.2.1
  refine va_copyi C.1 C.2.1 (C.2.2.1.trans hl.1.symm) C.2.2.2.1 (hts _ hl0) (hts _ hw.1) (hts _ hw.2.1) (hts _ hw.2.2) C.2.2.2.2.2.2.2.1 hP hD hS k0 k1 0 0 (by rw [bw_get hk0, hsh0]) (by rw [bw_get hk1, hsh1]) rfl rfl rfl (bw_ge0 h1) (bw_ge0 h2) (bw_ge0 h3) h4 h5 (fun _ _ => rfl) hdd ?_ hd (fun H1 locs1 hP1 hD1 hS1 => ?_)
  · have e9 : nativeFrameWords "java/lang/System" "arraycopy" 5 = 7 := by decide
    rw [e9]
    show _ ≤ 40 * d
    omega
  · have hg : ¬ k1 = 0 := fun q => by
      have h9 := hsh1 (fun _ => 0)
      rw [q, sh_x] at h9
      cases h9
    rw [bw_setR (r := va_cpy (M k0) (M k1) sp.toNatClampNeg dp.toNatClampNeg n.toNatClampNeg) hg (hsh1 _)] at hP1 hD1
    exact kk p l e s m args below meth c H1 locs1 ls C hu hv hP1 hD1 hS1 hl
theorem rw_callL3 {d' idx : Nat} {x : Int32} {y : MethodName} {cc' : ByteArray} {nL' : Nat} {ret' : Option FieldType} {post : Option Value → Mem → Prop} {x1 x2 x3 : Value} (hd : decode cc pc = .ok (.invokevirtual idx, 3)) (hl0 : Cond.methodLink own idx y ∈ lw_gd) (hm : bw_MV y cc' nL' ret' 3 1) (hL : bw_lok M x = true) (hc : Ct w d' y cc' nL' ret' [va_rf (bw_lr w x), x1, x2, x3] M post) (hdd : d' + 1 ≤ d) (hst : (st.map fun v => v.category).sum ≤ 8)
    (kk : ∀ (r : Option Value) (M' : Mem), post r M' → RW w d cu su mc ms cc own nL ret Z (pc + 3) lv (r.toList ++ st) M') : RW w d cu su mc ms cc own nL ret Z pc lv (x3 :: x2 :: x1 :: va_rf (bw_lr w x) :: st) M := by
  rw [bw_lr_s hL] at hc ⊢
  exact rw_callV3 hd hl0 hm (shL x) (bw_lok_k hL (j := 0) (by decide)) hc hdd hst kk
end RWT
theorem lj_RX9_259 : Cond.methodLink RX9 259 arraycopyName ∈ lw_gd := gd_of 714 (by decide +kernel) rfl
theorem lj_RX2_83 : Cond.methodLink RX2 83 arraycopyName ∈ lw_gd := gd_of 465 (by decide +kernel) rfl
theorem lj_RX2_89 : Cond.methodLink RX2 89 yJ7_fill_53178 ∈ lw_gd := gd_of 468 (by decide +kernel) rfl
theorem lj_RX4_26 : Cond.methodLink RX4 26 yJ7_fill_53178 ∈ lw_gd := gd_of 1045 (by decide +kernel) rfl
theorem lj_RX4_32 : Cond.methodLink RX4 32 arraycopyName ∈ lw_gd := gd_of 1084 (by decide +kernel) rfl
theorem lj_RX6_67 : Cond.methodLink RX6 67 arraycopyName ∈ lw_gd := gd_of 1123 (by decide +kernel) rfl
theorem lj_RX8_35 : Cond.methodLink RX8 35 yJ7_fill_53178 ∈ lw_gd := gd_of 989 (by decide +kernel) rfl
theorem ac_w : Cond.native arraycopyName ∈ lw_gd ∧ Cond.static arraycopyName ∈ lw_gd ∧ Cond.initialized "java/lang/System" ∈ lw_gd := ⟨gd_of 467 (by decide +kernel) rfl, gd_of 466 (by decide +kernel) rfl, gd_of 74 (by decide +kernel) rfl⟩
theorem ms_fill : bw_MS yJ7_fill_53178 cJ7_fill_53178 4 none 2 := ⟨gd_of 470 (by decide +kernel) rfl, gd_of 75 (by decide +kernel) rfl, gd_of 469 (by decide +kernel) rfl, ⟨by decide, by decide, by decide +kernel⟩, by decide⟩
theorem fs_above : Cond.fieldLink RX9 414 RX9 "ABOVE" "[I" ∈ lw_gd := gd_of 596 (by decide +kernel) rfl
theorem th_fill {w : WE} {M0 : Mem} {k n : Nat} {v : Int32} (hsh : ∀ r, bw_E w k r = .inl (bw_ca w 0, n, .inl r)) (hk : k < 129) (hn : n < 5000) : ∀ (m j : Nat), j + m = n → RW w 0 0 0 0 0 cJ7_fill_53178 RJ7 4 none (bw_Z w (bw_pv (bw_fill M0 k n v))) 5 [(0, .ref (bw_ad w k)), (1, .int v), (2, .int (nI j)), (3, .int (nI n))] [] (bw_fill M0 k j v) := by
  intro m
  induction m with
  | zero =>
    intro j hj
    have e : j = n := by omega
    subst e
    refine rw_iload_n dJ7_fill_53178_5 rfl rfl ?_
    refine rw_iload_n dJ7_fill_53178_6 rfl rfl ?_
    refine rw_icmp_ge (tgt := 20) dJ7_fill_53178_7 (by decide) (fun c => ?_) (fun c => ?_)
    · exact rw_vret dJ7_fill_53178_20 ⟨rfl, rfl⟩
    · exact absurd (nI_le (Nat.le_refl j) (by omega)) c
  | succ m ih =>
    intro j hj
    refine rw_iload_n dJ7_fill_53178_5 rfl rfl ?_
    refine rw_iload_n dJ7_fill_53178_6 rfl rfl ?_
    refine rw_icmp_ge (tgt := 20) dJ7_fill_53178_7 (by decide) (fun c => ?_) (fun c => ?_)
    · exact absurd c (nI_ge (by omega) (by omega))
    · refine rw_aload_n dJ7_fill_53178_10 rfl rfl ?_
      refine rw_iload_n dJ7_fill_53178_11 rfl rfl ?_
      refine rw_iload_n dJ7_fill_53178_12 rfl rfl ?_
      refine rw_iast dJ7_fill_53178_13 hsh (bw_kl hk) (vp_in_nI (n := j) (N := n) (by omega) (by omega)) ?_
      have e1 : bw_up (bw_fill M0 k j v) k (nI j).toNatClampNeg v = bw_fill M0 k (j + 1) v := by
        rw [nI_clamp (by omega)]
        funext b i
        unfold bw_up bw_fill bw_row upd
        by_cases hb : b = k
        · subst hb
          simp only [if_true]
          by_cases hi : i = j
          · subst hi; simp
          · simp only [hi, if_false]
            by_cases h2 : i < j
            · rw [if_pos h2, if_pos (by omega)]
            · rw [if_neg h2, if_neg (by omega)]
        · simp only [hb, if_false]
      refine rw_m e1 ?_
      refine rw_inc dJ7_fill_53178_14 rfl (by decide) ?_
      refine rw_goto (tgt := 5) dJ7_fill_53178_17 (by decide) ?_
      rw [nI_1]
      exact rw_sub (rw_lc rfl (rw_lc rfl (rw_lc rfl (rw_lc rfl rw_lz)))) (ih (j + 1) (by omega))
theorem ct_fill {w : WE} {M : Mem} {k n : Nat} {v : Int32} (hsh : ∀ r, bw_E w k r = .inl (bw_ca w 0, n, .inl r)) (hk : k < 129) (hn : n < 5000) : Ct w 0 yJ7_fill_53178 cJ7_fill_53178 4 none [.ref (bw_ad w k), .int v] M (bw_pv (bw_fill M k n v)) := by
  refine Ct.of (own := RJ7) rfl (by decide) (by intro v hv; simp only [List.mem_cons, List.not_mem_nil, or_false] at hv; rcases hv with rfl | rfl <;> rfl) (Nat.le_of_ble_eq_true rfl) ?_
  have e0 : bw_fill M k 0 v = M := by
    funext b i
    unfold bw_fill bw_row
    by_cases hb : b = k
    · subst hb; simp
    · rw [if_neg hb]
  refine rw_iconst (v := 0) dJ7_fill_53178_0 (by decide) ?_
  refine rw_istore_n dJ7_fill_53178_1 rfl (by decide) ?_
  refine rw_aload_n dJ7_fill_53178_2 rfl rfl ?_
  refine rw_alen (v := nI n) dJ7_fill_53178_3 hsh (by decide) (bw_kl hk) rfl ?_
  refine rw_istore_n dJ7_fill_53178_4 rfl (by decide) ?_
  refine rw_m e0.symm ?_
  exact rw_sub (rw_lc rfl (rw_lc rfl (rw_lc rfl (rw_lc rfl rw_lz)))) (th_fill hsh hk hn n 0 (by omega))
theorem rw_fill {w : WE} {d cu su mc ms : Nat} {cc : ByteArray} {own : String} {nL : Nat} {ret : Option FieldType} {Z : Option Value → Heap → Prop} {pc : Nat} {lv : List (Nat × Value)} {st : List Value} {M : Mem} {idx k n : Nat} {v : Int32} (hd : decode cc pc = .ok (.invokestatic idx, 3)) (hl0 : Cond.methodLink own idx yJ7_fill_53178 ∈ lw_gd) (hsh : ∀ r, bw_E w k r = .inl (bw_ca w 0, n, .inl r)) (hk : k < 129) (hn : n < 5000) (hdd : 1 ≤ d) (hst : (st.map fun v => v.category).sum ≤ 8) (kk : RW w d cu su mc ms cc own nL ret Z (pc + 3) lv st (bw_fill M k n v)) : RW w d cu su mc ms cc own nL ret Z pc lv (.int v :: .ref (bw_ad w k) :: st) M := rw_callS2 hd hl0 ms_fill (ct_fill hsh hk hn) hdd hst (bw_kkv kk)
