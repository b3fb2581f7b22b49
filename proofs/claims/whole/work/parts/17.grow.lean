def bw_lwf (M : Mem) : Bool := bw_lk0 M (M 1 7) && bw_lk0 M (M 11 3) && (List.range 14).all (fun i => bw_lk0 M (M 32 i) && bw_lk0 M (M 52 i))
theorem bw_lr_x {w : WE} {f : Nat → Nat} {M : Mem} {v : Int32} (hf : ∀ j, j < bw_nn M → f j = bw_ad w j) (h : bw_lk0 M v = true) : bw_lr (bw_wa w f) v = bw_lr w v := by
  unfold bw_lr
  by_cases e : v = 0
  · rw [if_pos e, if_pos e]
  · rw [if_neg e, if_neg e]
    simp only [bw_lk0, Bool.or_eq_true, decide_eq_true_eq] at h
    rcases h with h | h
    · exact absurd h e
    · show some (f (bw_lc v)) = _
      have hk9 : bw_lc v < bw_nn M := bw_lok_k h (j := 0) (by decide)
      rw [hf _ hk9]
def bw_eqE (e1 e2 : va_E) : Prop := ∀ (D : va_G) (cl : List vw_C) (a : Nat) (H : Heap), va_at D cl (a, e1) H → va_at D cl (a, e2) H
theorem bw_eqr {e1 e2 : va_E} (h : e1 = e2) : bw_eqE e1 e2 := by subst h; exact fun _ _ _ _ h => h
theorem bw_eqq {c : ClassId} {n : Nat} {f g : Nat → Option Nat} (h : ∀ i, i < n → f i = g i) : bw_eqE (.inl (c, n, .inr (.inr (.inr (.inr f))))) (.inl (c, n, .inr (.inr (.inr (.inr g))))) := by
  intro D cl a H hh
  have e : vp_cell c (n, .inr (.inr (.inr (.inr f)))) = vp_cell c (n, .inr (.inr (.inr (.inr g)))) := by
    show arrV c n (fun j => va_rf (f j)) = arrV c n (fun j => va_rf (g j))
    unfold arrV
    congr 1
    apply Array.ext_getElem?
    intro i
    by_cases hi : i < n
    · simp [hi, h i hi]
    · simp [hi]
  show H[a]? = some (vp_cell c (n, .inr (.inr (.inr (.inr g)))))
  rw [← e]
  exact hh
theorem bw_eqi {c : ClassId} {n : Nat} {f g : Nat → Int32} (h : ∀ i, i < n → f i = g i) : vp_cell c (n, .inl f) = vp_cell c (n, .inl g) := by
  rw [vp_cell_i, vp_cell_i]
  unfold arrV
  congr 1
  apply Array.ext_getElem?
  intro i
  by_cases hi : i < n
  · simp [hi, h i hi]
  · simp [hi]
theorem bw_lwf_t {M : Mem} (h : bw_lwf M = true) : bw_lk0 M (M 1 7) = true ∧ bw_lk0 M (M 11 3) = true ∧ ∀ i, i < 14 → bw_lk0 M (M 32 i) = true ∧ bw_lk0 M (M 52 i) = true := by
  simp only [bw_lwf, Bool.and_eq_true, List.all_eq_true, List.mem_range] at h
  exact ⟨h.1.1, h.1.2, h.2⟩
theorem ex_0 {w : WE} {f : Nat → Nat} {M : Mem} (hf : ∀ j, j < 129 → f j = bw_ad w j) : bw_eqE (bw_E w 0 (M 0)) (bw_E (bw_wa w f) 0 (M 0)) := bw_eqr (by rw [sh_x, sh_x, show bw_ad (bw_wa w f) 25 = bw_ad w 25 from hf _ (by decide), show bw_ad (bw_wa w f) 45 = bw_ad w 45 from hf _ (by decide), show bw_ad (bw_wa w f) 1 = bw_ad w 1 from hf _ (by decide), show bw_ad (bw_wa w f) 11 = bw_ad w 11 from hf _ (by decide), show bw_ad (bw_wa w f) 14 = bw_ad w 14 from hf _ (by decide), show bw_ad (bw_wa w f) 16 = bw_ad w 16 from hf _ (by decide), show bw_ad (bw_wa w f) 18 = bw_ad w 18 from hf _ (by decide), show bw_ad (bw_wa w f) 19 = bw_ad w 19 from hf _ (by decide), show bw_ad (bw_wa w f) 20 = bw_ad w 20 from hf _ (by decide), show bw_ad (bw_wa w f) 21 = bw_ad w 21 from hf _ (by decide), show bw_ad (bw_wa w f) 22 = bw_ad w 22 from hf _ (by decide), show bw_ad (bw_wa w f) 23 = bw_ad w 23 from hf _ (by decide), show bw_ad (bw_wa w f) 24 = bw_ad w 24 from hf _ (by decide)])
theorem ex_1 {w : WE} {f : Nat → Nat} {M : Mem} (hf : ∀ j, j < 129 → f j = bw_ad w j) (hg : ∀ j, j < bw_nn M → f j = bw_ad w j) (hw : bw_lwf M = true) : bw_eqE (bw_E w 1 (M 1)) (bw_E (bw_wa w f) 1 (M 1)) := bw_eqr (by rw [sh_plan, sh_plan, show bw_ad (bw_wa w f) 2 = bw_ad w 2 from hf _ (by decide), show bw_ad (bw_wa w f) 3 = bw_ad w 3 from hf _ (by decide), show bw_ad (bw_wa w f) 4 = bw_ad w 4 from hf _ (by decide), show bw_ad (bw_wa w f) 5 = bw_ad w 5 from hf _ (by decide), show bw_ad (bw_wa w f) 6 = bw_ad w 6 from hf _ (by decide), show bw_ad (bw_wa w f) 7 = bw_ad w 7 from hf _ (by decide), show bw_ad (bw_wa w f) 8 = bw_ad w 8 from hf _ (by decide), show bw_ad (bw_wa w f) 9 = bw_ad w 9 from hf _ (by decide), show bw_ad (bw_wa w f) 10 = bw_ad w 10 from hf _ (by decide), bw_lr_x hg (bw_lwf_t hw).1])
theorem ex_2 {w : WE} {f : Nat → Nat} {M : Mem} : bw_eqE (bw_E w 2 (M 2)) (bw_E (bw_wa w f) 2 (M 2)) := bw_eqr rfl
theorem ex_3 {w : WE} {f : Nat → Nat} {M : Mem} : bw_eqE (bw_E w 3 (M 3)) (bw_E (bw_wa w f) 3 (M 3)) := bw_eqr rfl
theorem ex_4 {w : WE} {f : Nat → Nat} {M : Mem} : bw_eqE (bw_E w 4 (M 4)) (bw_E (bw_wa w f) 4 (M 4)) := bw_eqr rfl
theorem ex_5 {w : WE} {f : Nat → Nat} {M : Mem} : bw_eqE (bw_E w 5 (M 5)) (bw_E (bw_wa w f) 5 (M 5)) := bw_eqr rfl
theorem ex_6 {w : WE} {f : Nat → Nat} {M : Mem} : bw_eqE (bw_E w 6 (M 6)) (bw_E (bw_wa w f) 6 (M 6)) := bw_eqr rfl
theorem ex_7 {w : WE} {f : Nat → Nat} {M : Mem} : bw_eqE (bw_E w 7 (M 7)) (bw_E (bw_wa w f) 7 (M 7)) := bw_eqr rfl
theorem ex_8 {w : WE} {f : Nat → Nat} {M : Mem} : bw_eqE (bw_E w 8 (M 8)) (bw_E (bw_wa w f) 8 (M 8)) := bw_eqr rfl
theorem ex_9 {w : WE} {f : Nat → Nat} {M : Mem} : bw_eqE (bw_E w 9 (M 9)) (bw_E (bw_wa w f) 9 (M 9)) := bw_eqr rfl
theorem ex_10 {w : WE} {f : Nat → Nat} {M : Mem} : bw_eqE (bw_E w 10 (M 10)) (bw_E (bw_wa w f) 10 (M 10)) := bw_eqr rfl
theorem ex_11 {w : WE} {f : Nat → Nat} {M : Mem} (hf : ∀ j, j < 129 → f j = bw_ad w j) (hg : ∀ j, j < bw_nn M → f j = bw_ad w j) (hw : bw_lwf M = true) : bw_eqE (bw_E w 11 (M 11)) (bw_E (bw_wa w f) 11 (M 11)) := bw_eqr (by rw [sh_years, sh_years, show bw_ad (bw_wa w f) 12 = bw_ad w 12 from hf _ (by decide), show bw_ad (bw_wa w f) 13 = bw_ad w 13 from hf _ (by decide), bw_lr_x hg (bw_lwf_t hw).2.1])
theorem ex_12 {w : WE} {f : Nat → Nat} {M : Mem} : bw_eqE (bw_E w 12 (M 12)) (bw_E (bw_wa w f) 12 (M 12)) := bw_eqr rfl
theorem ex_13 {w : WE} {f : Nat → Nat} {M : Mem} : bw_eqE (bw_E w 13 (M 13)) (bw_E (bw_wa w f) 13 (M 13)) := bw_eqr rfl
theorem ex_14 {w : WE} {f : Nat → Nat} {M : Mem} (hf : ∀ j, j < 129 → f j = bw_ad w j) : bw_eqE (bw_E w 14 (M 14)) (bw_E (bw_wa w f) 14 (M 14)) := bw_eqr (by rw [sh_reader, sh_reader, show bw_ad (bw_wa w f) 16 = bw_ad w 16 from hf _ (by decide), show bw_ad (bw_wa w f) 15 = bw_ad w 15 from hf _ (by decide)])
theorem ex_15 {w : WE} {f : Nat → Nat} {M : Mem} : bw_eqE (bw_E w 15 (M 15)) (bw_E (bw_wa w f) 15 (M 15)) := bw_eqr rfl
theorem ex_16 {w : WE} {f : Nat → Nat} {M : Mem} (hf : ∀ j, j < 129 → f j = bw_ad w j) : bw_eqE (bw_E w 16 (M 16)) (bw_E (bw_wa w f) 16 (M 16)) := bw_eqr (by rw [sh_tape, sh_tape, show bw_ad (bw_wa w f) 17 = bw_ad w 17 from hf _ (by decide)])
theorem ex_17 {w : WE} {f : Nat → Nat} {M : Mem} : bw_eqE (bw_E w 17 (M 17)) (bw_E (bw_wa w f) 17 (M 17)) := bw_eqr rfl
theorem ex_18 {w : WE} {f : Nat → Nat} {M : Mem} (hf : ∀ j, j < 129 → f j = bw_ad w j) : bw_eqE (bw_E w 18 (M 18)) (bw_E (bw_wa w f) 18 (M 18)) := by
  rw [sh_sheets, sh_sheets]
  refine bw_eqq (fun i hi => ?_)
  show some (bw_ad w (65 + 2 * i)) = some (f (65 + 2 * i))
  rw [hf _ (by omega)]
theorem ex_19 {w : WE} {f : Nat → Nat} {M : Mem} (hf : ∀ j, j < 129 → f j = bw_ad w j) : bw_eqE (bw_E w 19 (M 19)) (bw_E (bw_wa w f) 19 (M 19)) := by
  rw [sh_slots, sh_slots]
  refine bw_eqq (fun i hi => ?_)
  show some (bw_ad w (73 + 4 * i)) = some (f (73 + 4 * i))
  rw [hf _ (by omega)]
theorem ex_20 {w : WE} {f : Nat → Nat} {M : Mem} : bw_eqE (bw_E w 20 (M 20)) (bw_E (bw_wa w f) 20 (M 20)) := bw_eqr rfl
theorem ex_21 {w : WE} {f : Nat → Nat} {M : Mem} : bw_eqE (bw_E w 21 (M 21)) (bw_E (bw_wa w f) 21 (M 21)) := bw_eqr rfl
theorem ex_22 {w : WE} {f : Nat → Nat} {M : Mem} : bw_eqE (bw_E w 22 (M 22)) (bw_E (bw_wa w f) 22 (M 22)) := bw_eqr rfl
theorem ex_23 {w : WE} {f : Nat → Nat} {M : Mem} : bw_eqE (bw_E w 23 (M 23)) (bw_E (bw_wa w f) 23 (M 23)) := bw_eqr rfl
theorem ex_24 {w : WE} {f : Nat → Nat} {M : Mem} : bw_eqE (bw_E w 24 (M 24)) (bw_E (bw_wa w f) 24 (M 24)) := bw_eqr rfl
theorem ex_25 {w : WE} {f : Nat → Nat} {M : Mem} (hf : ∀ j, j < 129 → f j = bw_ad w j) : bw_eqE (bw_E w 25 (M 25)) (bw_E (bw_wa w f) 25 (M 25)) := bw_eqr (by rw [sh_now, sh_now, show bw_ad (bw_wa w f) 26 = bw_ad w 26 from hf _ (by decide), show bw_ad (bw_wa w f) 27 = bw_ad w 27 from hf _ (by decide), show bw_ad (bw_wa w f) 28 = bw_ad w 28 from hf _ (by decide), show bw_ad (bw_wa w f) 29 = bw_ad w 29 from hf _ (by decide), show bw_ad (bw_wa w f) 30 = bw_ad w 30 from hf _ (by decide), show bw_ad (bw_wa w f) 31 = bw_ad w 31 from hf _ (by decide), show bw_ad (bw_wa w f) 32 = bw_ad w 32 from hf _ (by decide)])
theorem ex_26 {w : WE} {f : Nat → Nat} {M : Mem} : bw_eqE (bw_E w 26 (M 26)) (bw_E (bw_wa w f) 26 (M 26)) := bw_eqr rfl
theorem ex_27 {w : WE} {f : Nat → Nat} {M : Mem} : bw_eqE (bw_E w 27 (M 27)) (bw_E (bw_wa w f) 27 (M 27)) := bw_eqr rfl
theorem ex_28 {w : WE} {f : Nat → Nat} {M : Mem} : bw_eqE (bw_E w 28 (M 28)) (bw_E (bw_wa w f) 28 (M 28)) := bw_eqr rfl
theorem ex_29 {w : WE} {f : Nat → Nat} {M : Mem} : bw_eqE (bw_E w 29 (M 29)) (bw_E (bw_wa w f) 29 (M 29)) := bw_eqr rfl
theorem ex_30 {w : WE} {f : Nat → Nat} {M : Mem} (hf : ∀ j, j < 129 → f j = bw_ad w j) : bw_eqE (bw_E w 30 (M 30)) (bw_E (bw_wa w f) 30 (M 30)) := by
  rw [sh_now_boards, sh_now_boards]
  refine bw_eqq (fun i hi => ?_)
  show some (bw_ad w (33 + i)) = some (f (33 + i))
  rw [hf _ (by omega)]
theorem ex_31 {w : WE} {f : Nat → Nat} {M : Mem} : bw_eqE (bw_E w 31 (M 31)) (bw_E (bw_wa w f) 31 (M 31)) := bw_eqr rfl
theorem ex_32 {w : WE} {f : Nat → Nat} {M : Mem} (hg : ∀ j, j < bw_nn M → f j = bw_ad w j) (hw : bw_lwf M = true) : bw_eqE (bw_E w 32 (M 32)) (bw_E (bw_wa w f) 32 (M 32)) := by
  rw [sh_now_texts, sh_now_texts]
  refine bw_eqq (fun i hi => ?_)
  exact (bw_lr_x hg ((bw_lwf_t hw).2.2 i hi).1).symm
theorem ex_33 {w : WE} {f : Nat → Nat} {M : Mem} : bw_eqE (bw_E w 33 (M 33)) (bw_E (bw_wa w f) 33 (M 33)) := bw_eqr rfl
theorem ex_34 {w : WE} {f : Nat → Nat} {M : Mem} : bw_eqE (bw_E w 34 (M 34)) (bw_E (bw_wa w f) 34 (M 34)) := bw_eqr rfl
theorem ex_35 {w : WE} {f : Nat → Nat} {M : Mem} : bw_eqE (bw_E w 35 (M 35)) (bw_E (bw_wa w f) 35 (M 35)) := bw_eqr rfl
theorem ex_36 {w : WE} {f : Nat → Nat} {M : Mem} : bw_eqE (bw_E w 36 (M 36)) (bw_E (bw_wa w f) 36 (M 36)) := bw_eqr rfl
theorem ex_37 {w : WE} {f : Nat → Nat} {M : Mem} : bw_eqE (bw_E w 37 (M 37)) (bw_E (bw_wa w f) 37 (M 37)) := bw_eqr rfl
theorem ex_38 {w : WE} {f : Nat → Nat} {M : Mem} : bw_eqE (bw_E w 38 (M 38)) (bw_E (bw_wa w f) 38 (M 38)) := bw_eqr rfl
theorem ex_39 {w : WE} {f : Nat → Nat} {M : Mem} : bw_eqE (bw_E w 39 (M 39)) (bw_E (bw_wa w f) 39 (M 39)) := bw_eqr rfl
theorem ex_40 {w : WE} {f : Nat → Nat} {M : Mem} : bw_eqE (bw_E w 40 (M 40)) (bw_E (bw_wa w f) 40 (M 40)) := bw_eqr rfl
theorem ex_41 {w : WE} {f : Nat → Nat} {M : Mem} : bw_eqE (bw_E w 41 (M 41)) (bw_E (bw_wa w f) 41 (M 41)) := bw_eqr rfl
theorem ex_42 {w : WE} {f : Nat → Nat} {M : Mem} : bw_eqE (bw_E w 42 (M 42)) (bw_E (bw_wa w f) 42 (M 42)) := bw_eqr rfl
theorem ex_43 {w : WE} {f : Nat → Nat} {M : Mem} : bw_eqE (bw_E w 43 (M 43)) (bw_E (bw_wa w f) 43 (M 43)) := bw_eqr rfl
theorem ex_44 {w : WE} {f : Nat → Nat} {M : Mem} : bw_eqE (bw_E w 44 (M 44)) (bw_E (bw_wa w f) 44 (M 44)) := bw_eqr rfl
theorem ex_45 {w : WE} {f : Nat → Nat} {M : Mem} (hf : ∀ j, j < 129 → f j = bw_ad w j) : bw_eqE (bw_E w 45 (M 45)) (bw_E (bw_wa w f) 45 (M 45)) := bw_eqr (by rw [sh_image, sh_image, show bw_ad (bw_wa w f) 46 = bw_ad w 46 from hf _ (by decide), show bw_ad (bw_wa w f) 47 = bw_ad w 47 from hf _ (by decide), show bw_ad (bw_wa w f) 48 = bw_ad w 48 from hf _ (by decide), show bw_ad (bw_wa w f) 49 = bw_ad w 49 from hf _ (by decide), show bw_ad (bw_wa w f) 50 = bw_ad w 50 from hf _ (by decide), show bw_ad (bw_wa w f) 51 = bw_ad w 51 from hf _ (by decide), show bw_ad (bw_wa w f) 52 = bw_ad w 52 from hf _ (by decide)])
theorem ex_46 {w : WE} {f : Nat → Nat} {M : Mem} : bw_eqE (bw_E w 46 (M 46)) (bw_E (bw_wa w f) 46 (M 46)) := bw_eqr rfl
theorem ex_47 {w : WE} {f : Nat → Nat} {M : Mem} : bw_eqE (bw_E w 47 (M 47)) (bw_E (bw_wa w f) 47 (M 47)) := bw_eqr rfl
theorem ex_48 {w : WE} {f : Nat → Nat} {M : Mem} : bw_eqE (bw_E w 48 (M 48)) (bw_E (bw_wa w f) 48 (M 48)) := bw_eqr rfl
theorem ex_49 {w : WE} {f : Nat → Nat} {M : Mem} : bw_eqE (bw_E w 49 (M 49)) (bw_E (bw_wa w f) 49 (M 49)) := bw_eqr rfl
theorem ex_50 {w : WE} {f : Nat → Nat} {M : Mem} (hf : ∀ j, j < 129 → f j = bw_ad w j) : bw_eqE (bw_E w 50 (M 50)) (bw_E (bw_wa w f) 50 (M 50)) := by
  rw [sh_image_boards, sh_image_boards]
  refine bw_eqq (fun i hi => ?_)
  show some (bw_ad w (53 + i)) = some (f (53 + i))
  rw [hf _ (by omega)]
theorem ex_51 {w : WE} {f : Nat → Nat} {M : Mem} : bw_eqE (bw_E w 51 (M 51)) (bw_E (bw_wa w f) 51 (M 51)) := bw_eqr rfl
theorem ex_52 {w : WE} {f : Nat → Nat} {M : Mem} (hg : ∀ j, j < bw_nn M → f j = bw_ad w j) (hw : bw_lwf M = true) : bw_eqE (bw_E w 52 (M 52)) (bw_E (bw_wa w f) 52 (M 52)) := by
  rw [sh_image_texts, sh_image_texts]
  refine bw_eqq (fun i hi => ?_)
  exact (bw_lr_x hg ((bw_lwf_t hw).2.2 i hi).2).symm
theorem ex_53 {w : WE} {f : Nat → Nat} {M : Mem} : bw_eqE (bw_E w 53 (M 53)) (bw_E (bw_wa w f) 53 (M 53)) := bw_eqr rfl
theorem ex_54 {w : WE} {f : Nat → Nat} {M : Mem} : bw_eqE (bw_E w 54 (M 54)) (bw_E (bw_wa w f) 54 (M 54)) := bw_eqr rfl
theorem ex_55 {w : WE} {f : Nat → Nat} {M : Mem} : bw_eqE (bw_E w 55 (M 55)) (bw_E (bw_wa w f) 55 (M 55)) := bw_eqr rfl
theorem ex_56 {w : WE} {f : Nat → Nat} {M : Mem} : bw_eqE (bw_E w 56 (M 56)) (bw_E (bw_wa w f) 56 (M 56)) := bw_eqr rfl
theorem ex_57 {w : WE} {f : Nat → Nat} {M : Mem} : bw_eqE (bw_E w 57 (M 57)) (bw_E (bw_wa w f) 57 (M 57)) := bw_eqr rfl
theorem ex_58 {w : WE} {f : Nat → Nat} {M : Mem} : bw_eqE (bw_E w 58 (M 58)) (bw_E (bw_wa w f) 58 (M 58)) := bw_eqr rfl
theorem ex_59 {w : WE} {f : Nat → Nat} {M : Mem} : bw_eqE (bw_E w 59 (M 59)) (bw_E (bw_wa w f) 59 (M 59)) := bw_eqr rfl
theorem ex_60 {w : WE} {f : Nat → Nat} {M : Mem} : bw_eqE (bw_E w 60 (M 60)) (bw_E (bw_wa w f) 60 (M 60)) := bw_eqr rfl
theorem ex_61 {w : WE} {f : Nat → Nat} {M : Mem} : bw_eqE (bw_E w 61 (M 61)) (bw_E (bw_wa w f) 61 (M 61)) := bw_eqr rfl
theorem ex_62 {w : WE} {f : Nat → Nat} {M : Mem} : bw_eqE (bw_E w 62 (M 62)) (bw_E (bw_wa w f) 62 (M 62)) := bw_eqr rfl
theorem ex_63 {w : WE} {f : Nat → Nat} {M : Mem} : bw_eqE (bw_E w 63 (M 63)) (bw_E (bw_wa w f) 63 (M 63)) := bw_eqr rfl
theorem ex_64 {w : WE} {f : Nat → Nat} {M : Mem} : bw_eqE (bw_E w 64 (M 64)) (bw_E (bw_wa w f) 64 (M 64)) := bw_eqr rfl
theorem ex_65 {w : WE} {f : Nat → Nat} {M : Mem} (hf : ∀ j, j < 129 → f j = bw_ad w j) : bw_eqE (bw_E w 65 (M 65)) (bw_E (bw_wa w f) 65 (M 65)) := bw_eqr (by rw [sh_sheet0, sh_sheet0, show bw_ad (bw_wa w f) 66 = bw_ad w 66 from hf _ (by decide)])
theorem ex_66 {w : WE} {f : Nat → Nat} {M : Mem} : bw_eqE (bw_E w 66 (M 66)) (bw_E (bw_wa w f) 66 (M 66)) := bw_eqr rfl
theorem ex_67 {w : WE} {f : Nat → Nat} {M : Mem} (hf : ∀ j, j < 129 → f j = bw_ad w j) : bw_eqE (bw_E w 67 (M 67)) (bw_E (bw_wa w f) 67 (M 67)) := bw_eqr (by rw [sh_sheet1, sh_sheet1, show bw_ad (bw_wa w f) 68 = bw_ad w 68 from hf _ (by decide)])
theorem ex_68 {w : WE} {f : Nat → Nat} {M : Mem} : bw_eqE (bw_E w 68 (M 68)) (bw_E (bw_wa w f) 68 (M 68)) := bw_eqr rfl
theorem ex_69 {w : WE} {f : Nat → Nat} {M : Mem} (hf : ∀ j, j < 129 → f j = bw_ad w j) : bw_eqE (bw_E w 69 (M 69)) (bw_E (bw_wa w f) 69 (M 69)) := bw_eqr (by rw [sh_sheet2, sh_sheet2, show bw_ad (bw_wa w f) 70 = bw_ad w 70 from hf _ (by decide)])
theorem ex_70 {w : WE} {f : Nat → Nat} {M : Mem} : bw_eqE (bw_E w 70 (M 70)) (bw_E (bw_wa w f) 70 (M 70)) := bw_eqr rfl
theorem ex_71 {w : WE} {f : Nat → Nat} {M : Mem} (hf : ∀ j, j < 129 → f j = bw_ad w j) : bw_eqE (bw_E w 71 (M 71)) (bw_E (bw_wa w f) 71 (M 71)) := bw_eqr (by rw [sh_sheet3, sh_sheet3, show bw_ad (bw_wa w f) 72 = bw_ad w 72 from hf _ (by decide)])
theorem ex_72 {w : WE} {f : Nat → Nat} {M : Mem} : bw_eqE (bw_E w 72 (M 72)) (bw_E (bw_wa w f) 72 (M 72)) := bw_eqr rfl
theorem ex_73 {w : WE} {f : Nat → Nat} {M : Mem} (hf : ∀ j, j < 129 → f j = bw_ad w j) : bw_eqE (bw_E w 73 (M 73)) (bw_E (bw_wa w f) 73 (M 73)) := bw_eqr (by rw [sh_slot0, sh_slot0, show bw_ad (bw_wa w f) 74 = bw_ad w 74 from hf _ (by decide), show bw_ad (bw_wa w f) 75 = bw_ad w 75 from hf _ (by decide)])
theorem ex_74 {w : WE} {f : Nat → Nat} {M : Mem} : bw_eqE (bw_E w 74 (M 74)) (bw_E (bw_wa w f) 74 (M 74)) := bw_eqr rfl
theorem ex_75 {w : WE} {f : Nat → Nat} {M : Mem} (hf : ∀ j, j < 129 → f j = bw_ad w j) : bw_eqE (bw_E w 75 (M 75)) (bw_E (bw_wa w f) 75 (M 75)) := bw_eqr (by rw [sh_slot0_sheet, sh_slot0_sheet, show bw_ad (bw_wa w f) 76 = bw_ad w 76 from hf _ (by decide)])
theorem ex_76 {w : WE} {f : Nat → Nat} {M : Mem} : bw_eqE (bw_E w 76 (M 76)) (bw_E (bw_wa w f) 76 (M 76)) := bw_eqr rfl
theorem ex_77 {w : WE} {f : Nat → Nat} {M : Mem} (hf : ∀ j, j < 129 → f j = bw_ad w j) : bw_eqE (bw_E w 77 (M 77)) (bw_E (bw_wa w f) 77 (M 77)) := bw_eqr (by rw [sh_slot1, sh_slot1, show bw_ad (bw_wa w f) 78 = bw_ad w 78 from hf _ (by decide), show bw_ad (bw_wa w f) 79 = bw_ad w 79 from hf _ (by decide)])
theorem ex_78 {w : WE} {f : Nat → Nat} {M : Mem} : bw_eqE (bw_E w 78 (M 78)) (bw_E (bw_wa w f) 78 (M 78)) := bw_eqr rfl
theorem ex_79 {w : WE} {f : Nat → Nat} {M : Mem} (hf : ∀ j, j < 129 → f j = bw_ad w j) : bw_eqE (bw_E w 79 (M 79)) (bw_E (bw_wa w f) 79 (M 79)) := bw_eqr (by rw [sh_slot1_sheet, sh_slot1_sheet, show bw_ad (bw_wa w f) 80 = bw_ad w 80 from hf _ (by decide)])
theorem ex_80 {w : WE} {f : Nat → Nat} {M : Mem} : bw_eqE (bw_E w 80 (M 80)) (bw_E (bw_wa w f) 80 (M 80)) := bw_eqr rfl
theorem ex_81 {w : WE} {f : Nat → Nat} {M : Mem} (hf : ∀ j, j < 129 → f j = bw_ad w j) : bw_eqE (bw_E w 81 (M 81)) (bw_E (bw_wa w f) 81 (M 81)) := bw_eqr (by rw [sh_slot2, sh_slot2, show bw_ad (bw_wa w f) 82 = bw_ad w 82 from hf _ (by decide), show bw_ad (bw_wa w f) 83 = bw_ad w 83 from hf _ (by decide)])
theorem ex_82 {w : WE} {f : Nat → Nat} {M : Mem} : bw_eqE (bw_E w 82 (M 82)) (bw_E (bw_wa w f) 82 (M 82)) := bw_eqr rfl
theorem ex_83 {w : WE} {f : Nat → Nat} {M : Mem} (hf : ∀ j, j < 129 → f j = bw_ad w j) : bw_eqE (bw_E w 83 (M 83)) (bw_E (bw_wa w f) 83 (M 83)) := bw_eqr (by rw [sh_slot2_sheet, sh_slot2_sheet, show bw_ad (bw_wa w f) 84 = bw_ad w 84 from hf _ (by decide)])
theorem ex_84 {w : WE} {f : Nat → Nat} {M : Mem} : bw_eqE (bw_E w 84 (M 84)) (bw_E (bw_wa w f) 84 (M 84)) := bw_eqr rfl
theorem ex_85 {w : WE} {f : Nat → Nat} {M : Mem} (hf : ∀ j, j < 129 → f j = bw_ad w j) : bw_eqE (bw_E w 85 (M 85)) (bw_E (bw_wa w f) 85 (M 85)) := bw_eqr (by rw [sh_slot3, sh_slot3, show bw_ad (bw_wa w f) 86 = bw_ad w 86 from hf _ (by decide), show bw_ad (bw_wa w f) 87 = bw_ad w 87 from hf _ (by decide)])
theorem ex_86 {w : WE} {f : Nat → Nat} {M : Mem} : bw_eqE (bw_E w 86 (M 86)) (bw_E (bw_wa w f) 86 (M 86)) := bw_eqr rfl
theorem ex_87 {w : WE} {f : Nat → Nat} {M : Mem} (hf : ∀ j, j < 129 → f j = bw_ad w j) : bw_eqE (bw_E w 87 (M 87)) (bw_E (bw_wa w f) 87 (M 87)) := bw_eqr (by rw [sh_slot3_sheet, sh_slot3_sheet, show bw_ad (bw_wa w f) 88 = bw_ad w 88 from hf _ (by decide)])
theorem ex_88 {w : WE} {f : Nat → Nat} {M : Mem} : bw_eqE (bw_E w 88 (M 88)) (bw_E (bw_wa w f) 88 (M 88)) := bw_eqr rfl
theorem ex_89 {w : WE} {f : Nat → Nat} {M : Mem} (hf : ∀ j, j < 129 → f j = bw_ad w j) : bw_eqE (bw_E w 89 (M 89)) (bw_E (bw_wa w f) 89 (M 89)) := bw_eqr (by rw [sh_slot4, sh_slot4, show bw_ad (bw_wa w f) 90 = bw_ad w 90 from hf _ (by decide), show bw_ad (bw_wa w f) 91 = bw_ad w 91 from hf _ (by decide)])
theorem ex_90 {w : WE} {f : Nat → Nat} {M : Mem} : bw_eqE (bw_E w 90 (M 90)) (bw_E (bw_wa w f) 90 (M 90)) := bw_eqr rfl
theorem ex_91 {w : WE} {f : Nat → Nat} {M : Mem} (hf : ∀ j, j < 129 → f j = bw_ad w j) : bw_eqE (bw_E w 91 (M 91)) (bw_E (bw_wa w f) 91 (M 91)) := bw_eqr (by rw [sh_slot4_sheet, sh_slot4_sheet, show bw_ad (bw_wa w f) 92 = bw_ad w 92 from hf _ (by decide)])
theorem ex_92 {w : WE} {f : Nat → Nat} {M : Mem} : bw_eqE (bw_E w 92 (M 92)) (bw_E (bw_wa w f) 92 (M 92)) := bw_eqr rfl
theorem ex_93 {w : WE} {f : Nat → Nat} {M : Mem} (hf : ∀ j, j < 129 → f j = bw_ad w j) : bw_eqE (bw_E w 93 (M 93)) (bw_E (bw_wa w f) 93 (M 93)) := bw_eqr (by rw [sh_m, sh_m, show bw_ad (bw_wa w f) 94 = bw_ad w 94 from hf _ (by decide), show bw_ad (bw_wa w f) 95 = bw_ad w 95 from hf _ (by decide), show bw_ad (bw_wa w f) 96 = bw_ad w 96 from hf _ (by decide), show bw_ad (bw_wa w f) 97 = bw_ad w 97 from hf _ (by decide), show bw_ad (bw_wa w f) 98 = bw_ad w 98 from hf _ (by decide), show bw_ad (bw_wa w f) 99 = bw_ad w 99 from hf _ (by decide), show bw_ad (bw_wa w f) 100 = bw_ad w 100 from hf _ (by decide), show bw_ad (bw_wa w f) 101 = bw_ad w 101 from hf _ (by decide), show bw_ad (bw_wa w f) 102 = bw_ad w 102 from hf _ (by decide), show bw_ad (bw_wa w f) 103 = bw_ad w 103 from hf _ (by decide), show bw_ad (bw_wa w f) 104 = bw_ad w 104 from hf _ (by decide), show bw_ad (bw_wa w f) 105 = bw_ad w 105 from hf _ (by decide), show bw_ad (bw_wa w f) 106 = bw_ad w 106 from hf _ (by decide), show bw_ad (bw_wa w f) 107 = bw_ad w 107 from hf _ (by decide), show bw_ad (bw_wa w f) 108 = bw_ad w 108 from hf _ (by decide), show bw_ad (bw_wa w f) 109 = bw_ad w 109 from hf _ (by decide), show bw_ad (bw_wa w f) 110 = bw_ad w 110 from hf _ (by decide), show bw_ad (bw_wa w f) 111 = bw_ad w 111 from hf _ (by decide), show bw_ad (bw_wa w f) 112 = bw_ad w 112 from hf _ (by decide), show bw_ad (bw_wa w f) 113 = bw_ad w 113 from hf _ (by decide), show bw_ad (bw_wa w f) 114 = bw_ad w 114 from hf _ (by decide), show bw_ad (bw_wa w f) 115 = bw_ad w 115 from hf _ (by decide), show bw_ad (bw_wa w f) 116 = bw_ad w 116 from hf _ (by decide), show bw_ad (bw_wa w f) 117 = bw_ad w 117 from hf _ (by decide), show bw_ad (bw_wa w f) 118 = bw_ad w 118 from hf _ (by decide), show bw_ad (bw_wa w f) 119 = bw_ad w 119 from hf _ (by decide), show bw_ad (bw_wa w f) 120 = bw_ad w 120 from hf _ (by decide), show bw_ad (bw_wa w f) 121 = bw_ad w 121 from hf _ (by decide), show bw_ad (bw_wa w f) 122 = bw_ad w 122 from hf _ (by decide), show bw_ad (bw_wa w f) 123 = bw_ad w 123 from hf _ (by decide), show bw_ad (bw_wa w f) 124 = bw_ad w 124 from hf _ (by decide), show bw_ad (bw_wa w f) 125 = bw_ad w 125 from hf _ (by decide), show bw_ad (bw_wa w f) 126 = bw_ad w 126 from hf _ (by decide), show bw_ad (bw_wa w f) 127 = bw_ad w 127 from hf _ (by decide), show bw_ad (bw_wa w f) 128 = bw_ad w 128 from hf _ (by decide)])
theorem ex_94 {w : WE} {f : Nat → Nat} {M : Mem} : bw_eqE (bw_E w 94 (M 94)) (bw_E (bw_wa w f) 94 (M 94)) := bw_eqr rfl
theorem ex_95 {w : WE} {f : Nat → Nat} {M : Mem} : bw_eqE (bw_E w 95 (M 95)) (bw_E (bw_wa w f) 95 (M 95)) := bw_eqr rfl
theorem ex_96 {w : WE} {f : Nat → Nat} {M : Mem} : bw_eqE (bw_E w 96 (M 96)) (bw_E (bw_wa w f) 96 (M 96)) := bw_eqr rfl
theorem ex_97 {w : WE} {f : Nat → Nat} {M : Mem} : bw_eqE (bw_E w 97 (M 97)) (bw_E (bw_wa w f) 97 (M 97)) := bw_eqr rfl
theorem ex_98 {w : WE} {f : Nat → Nat} {M : Mem} : bw_eqE (bw_E w 98 (M 98)) (bw_E (bw_wa w f) 98 (M 98)) := bw_eqr rfl
theorem ex_99 {w : WE} {f : Nat → Nat} {M : Mem} : bw_eqE (bw_E w 99 (M 99)) (bw_E (bw_wa w f) 99 (M 99)) := bw_eqr rfl
theorem ex_100 {w : WE} {f : Nat → Nat} {M : Mem} : bw_eqE (bw_E w 100 (M 100)) (bw_E (bw_wa w f) 100 (M 100)) := bw_eqr rfl
theorem ex_101 {w : WE} {f : Nat → Nat} {M : Mem} : bw_eqE (bw_E w 101 (M 101)) (bw_E (bw_wa w f) 101 (M 101)) := bw_eqr rfl
theorem ex_102 {w : WE} {f : Nat → Nat} {M : Mem} : bw_eqE (bw_E w 102 (M 102)) (bw_E (bw_wa w f) 102 (M 102)) := bw_eqr rfl
theorem ex_103 {w : WE} {f : Nat → Nat} {M : Mem} : bw_eqE (bw_E w 103 (M 103)) (bw_E (bw_wa w f) 103 (M 103)) := bw_eqr rfl
theorem ex_104 {w : WE} {f : Nat → Nat} {M : Mem} : bw_eqE (bw_E w 104 (M 104)) (bw_E (bw_wa w f) 104 (M 104)) := bw_eqr rfl
theorem ex_105 {w : WE} {f : Nat → Nat} {M : Mem} : bw_eqE (bw_E w 105 (M 105)) (bw_E (bw_wa w f) 105 (M 105)) := bw_eqr rfl
theorem ex_106 {w : WE} {f : Nat → Nat} {M : Mem} : bw_eqE (bw_E w 106 (M 106)) (bw_E (bw_wa w f) 106 (M 106)) := bw_eqr rfl
theorem ex_107 {w : WE} {f : Nat → Nat} {M : Mem} : bw_eqE (bw_E w 107 (M 107)) (bw_E (bw_wa w f) 107 (M 107)) := bw_eqr rfl
theorem ex_108 {w : WE} {f : Nat → Nat} {M : Mem} : bw_eqE (bw_E w 108 (M 108)) (bw_E (bw_wa w f) 108 (M 108)) := bw_eqr rfl
theorem ex_109 {w : WE} {f : Nat → Nat} {M : Mem} : bw_eqE (bw_E w 109 (M 109)) (bw_E (bw_wa w f) 109 (M 109)) := bw_eqr rfl
theorem ex_110 {w : WE} {f : Nat → Nat} {M : Mem} : bw_eqE (bw_E w 110 (M 110)) (bw_E (bw_wa w f) 110 (M 110)) := bw_eqr rfl
theorem ex_111 {w : WE} {f : Nat → Nat} {M : Mem} : bw_eqE (bw_E w 111 (M 111)) (bw_E (bw_wa w f) 111 (M 111)) := bw_eqr rfl
theorem ex_112 {w : WE} {f : Nat → Nat} {M : Mem} : bw_eqE (bw_E w 112 (M 112)) (bw_E (bw_wa w f) 112 (M 112)) := bw_eqr rfl
theorem ex_113 {w : WE} {f : Nat → Nat} {M : Mem} : bw_eqE (bw_E w 113 (M 113)) (bw_E (bw_wa w f) 113 (M 113)) := bw_eqr rfl
theorem ex_114 {w : WE} {f : Nat → Nat} {M : Mem} : bw_eqE (bw_E w 114 (M 114)) (bw_E (bw_wa w f) 114 (M 114)) := bw_eqr rfl
theorem ex_115 {w : WE} {f : Nat → Nat} {M : Mem} : bw_eqE (bw_E w 115 (M 115)) (bw_E (bw_wa w f) 115 (M 115)) := bw_eqr rfl
theorem ex_116 {w : WE} {f : Nat → Nat} {M : Mem} : bw_eqE (bw_E w 116 (M 116)) (bw_E (bw_wa w f) 116 (M 116)) := bw_eqr rfl
theorem ex_117 {w : WE} {f : Nat → Nat} {M : Mem} : bw_eqE (bw_E w 117 (M 117)) (bw_E (bw_wa w f) 117 (M 117)) := bw_eqr rfl
theorem ex_118 {w : WE} {f : Nat → Nat} {M : Mem} : bw_eqE (bw_E w 118 (M 118)) (bw_E (bw_wa w f) 118 (M 118)) := bw_eqr rfl
theorem ex_119 {w : WE} {f : Nat → Nat} {M : Mem} : bw_eqE (bw_E w 119 (M 119)) (bw_E (bw_wa w f) 119 (M 119)) := bw_eqr rfl
theorem ex_120 {w : WE} {f : Nat → Nat} {M : Mem} : bw_eqE (bw_E w 120 (M 120)) (bw_E (bw_wa w f) 120 (M 120)) := bw_eqr rfl
theorem ex_121 {w : WE} {f : Nat → Nat} {M : Mem} : bw_eqE (bw_E w 121 (M 121)) (bw_E (bw_wa w f) 121 (M 121)) := bw_eqr rfl
theorem ex_122 {w : WE} {f : Nat → Nat} {M : Mem} : bw_eqE (bw_E w 122 (M 122)) (bw_E (bw_wa w f) 122 (M 122)) := bw_eqr rfl
theorem ex_123 {w : WE} {f : Nat → Nat} {M : Mem} : bw_eqE (bw_E w 123 (M 123)) (bw_E (bw_wa w f) 123 (M 123)) := bw_eqr rfl
theorem ex_124 {w : WE} {f : Nat → Nat} {M : Mem} : bw_eqE (bw_E w 124 (M 124)) (bw_E (bw_wa w f) 124 (M 124)) := bw_eqr rfl
theorem ex_125 {w : WE} {f : Nat → Nat} {M : Mem} : bw_eqE (bw_E w 125 (M 125)) (bw_E (bw_wa w f) 125 (M 125)) := bw_eqr rfl
theorem ex_126 {w : WE} {f : Nat → Nat} {M : Mem} : bw_eqE (bw_E w 126 (M 126)) (bw_E (bw_wa w f) 126 (M 126)) := bw_eqr rfl
theorem ex_127 {w : WE} {f : Nat → Nat} {M : Mem} : bw_eqE (bw_E w 127 (M 127)) (bw_E (bw_wa w f) 127 (M 127)) := bw_eqr rfl
theorem ex_128 {w : WE} {f : Nat → Nat} {M : Mem} : bw_eqE (bw_E w 128 (M 128)) (bw_E (bw_wa w f) 128 (M 128)) := bw_eqr rfl
theorem exg_0 {w : WE} {f : Nat → Nat} {M : Mem} (hf : ∀ j, j < 129 → f j = bw_ad w j) (hg : ∀ j, j < bw_nn M → f j = bw_ad w j) (hw : bw_lwf M = true) (k : Nat) (h1 : 0 ≤ k) (h2 : k < 16) : bw_eqE (bw_E w k (M k)) (bw_E (bw_wa w f) k (M k)) := by
  rcases (show k = 0 ∨ k = 1 ∨ k = 2 ∨ k = 3 ∨ k = 4 ∨ k = 5 ∨ k = 6 ∨ k = 7 ∨ k = 8 ∨ k = 9 ∨ k = 10 ∨ k = 11 ∨ k = 12 ∨ k = 13 ∨ k = 14 ∨ k = 15 by omega) with rfl | rfl | rfl | rfl | rfl | rfl | rfl | rfl | rfl | rfl | rfl | rfl | rfl | rfl | rfl | rfl
  · exact ex_0 hf
  · exact ex_1 hf hg hw
  · exact ex_2
  · exact ex_3
  · exact ex_4
  · exact ex_5
  · exact ex_6
  · exact ex_7
  · exact ex_8
  · exact ex_9
  · exact ex_10
  · exact ex_11 hf hg hw
  · exact ex_12
  · exact ex_13
  · exact ex_14 hf
  · exact ex_15
theorem exg_16 {w : WE} {f : Nat → Nat} {M : Mem} (hf : ∀ j, j < 129 → f j = bw_ad w j) (hg : ∀ j, j < bw_nn M → f j = bw_ad w j) (hw : bw_lwf M = true) (k : Nat) (h1 : 16 ≤ k) (h2 : k < 32) : bw_eqE (bw_E w k (M k)) (bw_E (bw_wa w f) k (M k)) := by
  rcases (show k = 16 ∨ k = 17 ∨ k = 18 ∨ k = 19 ∨ k = 20 ∨ k = 21 ∨ k = 22 ∨ k = 23 ∨ k = 24 ∨ k = 25 ∨ k = 26 ∨ k = 27 ∨ k = 28 ∨ k = 29 ∨ k = 30 ∨ k = 31 by omega) with rfl | rfl | rfl | rfl | rfl | rfl | rfl | rfl | rfl | rfl | rfl | rfl | rfl | rfl | rfl | rfl
  · exact ex_16 hf
  · exact ex_17
  · exact ex_18 hf
  · exact ex_19 hf
  · exact ex_20
  · exact ex_21
  · exact ex_22
  · exact ex_23
  · exact ex_24
  · exact ex_25 hf
  · exact ex_26
  · exact ex_27
  · exact ex_28
  · exact ex_29
  · exact ex_30 hf
  · exact ex_31
theorem exg_32 {w : WE} {f : Nat → Nat} {M : Mem} (hf : ∀ j, j < 129 → f j = bw_ad w j) (hg : ∀ j, j < bw_nn M → f j = bw_ad w j) (hw : bw_lwf M = true) (k : Nat) (h1 : 32 ≤ k) (h2 : k < 48) : bw_eqE (bw_E w k (M k)) (bw_E (bw_wa w f) k (M k)) := by
  rcases (show k = 32 ∨ k = 33 ∨ k = 34 ∨ k = 35 ∨ k = 36 ∨ k = 37 ∨ k = 38 ∨ k = 39 ∨ k = 40 ∨ k = 41 ∨ k = 42 ∨ k = 43 ∨ k = 44 ∨ k = 45 ∨ k = 46 ∨ k = 47 by omega) with rfl | rfl | rfl | rfl | rfl | rfl | rfl | rfl | rfl | rfl | rfl | rfl | rfl | rfl | rfl | rfl
  · exact ex_32 hg hw
  · exact ex_33
  · exact ex_34
  · exact ex_35
  · exact ex_36
  · exact ex_37
  · exact ex_38
  · exact ex_39
  · exact ex_40
  · exact ex_41
  · exact ex_42
  · exact ex_43
  · exact ex_44
  · exact ex_45 hf
  · exact ex_46
  · exact ex_47
theorem exg_48 {w : WE} {f : Nat → Nat} {M : Mem} (hf : ∀ j, j < 129 → f j = bw_ad w j) (hg : ∀ j, j < bw_nn M → f j = bw_ad w j) (hw : bw_lwf M = true) (k : Nat) (h1 : 48 ≤ k) (h2 : k < 64) : bw_eqE (bw_E w k (M k)) (bw_E (bw_wa w f) k (M k)) := by
  rcases (show k = 48 ∨ k = 49 ∨ k = 50 ∨ k = 51 ∨ k = 52 ∨ k = 53 ∨ k = 54 ∨ k = 55 ∨ k = 56 ∨ k = 57 ∨ k = 58 ∨ k = 59 ∨ k = 60 ∨ k = 61 ∨ k = 62 ∨ k = 63 by omega) with rfl | rfl | rfl | rfl | rfl | rfl | rfl | rfl | rfl | rfl | rfl | rfl | rfl | rfl | rfl | rfl
  · exact ex_48
  · exact ex_49
  · exact ex_50 hf
  · exact ex_51
  · exact ex_52 hg hw
  · exact ex_53
  · exact ex_54
  · exact ex_55
  · exact ex_56
  · exact ex_57
  · exact ex_58
  · exact ex_59
  · exact ex_60
  · exact ex_61
  · exact ex_62
  · exact ex_63
theorem exg_64 {w : WE} {f : Nat → Nat} {M : Mem} (hf : ∀ j, j < 129 → f j = bw_ad w j) (hg : ∀ j, j < bw_nn M → f j = bw_ad w j) (hw : bw_lwf M = true) (k : Nat) (h1 : 64 ≤ k) (h2 : k < 80) : bw_eqE (bw_E w k (M k)) (bw_E (bw_wa w f) k (M k)) := by
  rcases (show k = 64 ∨ k = 65 ∨ k = 66 ∨ k = 67 ∨ k = 68 ∨ k = 69 ∨ k = 70 ∨ k = 71 ∨ k = 72 ∨ k = 73 ∨ k = 74 ∨ k = 75 ∨ k = 76 ∨ k = 77 ∨ k = 78 ∨ k = 79 by omega) with rfl | rfl | rfl | rfl | rfl | rfl | rfl | rfl | rfl | rfl | rfl | rfl | rfl | rfl | rfl | rfl
  · exact ex_64
  · exact ex_65 hf
  · exact ex_66
  · exact ex_67 hf
  · exact ex_68
  · exact ex_69 hf
  · exact ex_70
  · exact ex_71 hf
  · exact ex_72
  · exact ex_73 hf
  · exact ex_74
  · exact ex_75 hf
  · exact ex_76
  · exact ex_77 hf
  · exact ex_78
  · exact ex_79 hf
theorem exg_80 {w : WE} {f : Nat → Nat} {M : Mem} (hf : ∀ j, j < 129 → f j = bw_ad w j) (hg : ∀ j, j < bw_nn M → f j = bw_ad w j) (hw : bw_lwf M = true) (k : Nat) (h1 : 80 ≤ k) (h2 : k < 96) : bw_eqE (bw_E w k (M k)) (bw_E (bw_wa w f) k (M k)) := by
  rcases (show k = 80 ∨ k = 81 ∨ k = 82 ∨ k = 83 ∨ k = 84 ∨ k = 85 ∨ k = 86 ∨ k = 87 ∨ k = 88 ∨ k = 89 ∨ k = 90 ∨ k = 91 ∨ k = 92 ∨ k = 93 ∨ k = 94 ∨ k = 95 by omega) with rfl | rfl | rfl | rfl | rfl | rfl | rfl | rfl | rfl | rfl | rfl | rfl | rfl | rfl | rfl | rfl
  · exact ex_80
  · exact ex_81 hf
  · exact ex_82
  · exact ex_83 hf
  · exact ex_84
  · exact ex_85 hf
  · exact ex_86
  · exact ex_87 hf
  · exact ex_88
  · exact ex_89 hf
  · exact ex_90
  · exact ex_91 hf
  · exact ex_92
  · exact ex_93 hf
  · exact ex_94
  · exact ex_95
theorem exg_96 {w : WE} {f : Nat → Nat} {M : Mem} (hf : ∀ j, j < 129 → f j = bw_ad w j) (hg : ∀ j, j < bw_nn M → f j = bw_ad w j) (hw : bw_lwf M = true) (k : Nat) (h1 : 96 ≤ k) (h2 : k < 112) : bw_eqE (bw_E w k (M k)) (bw_E (bw_wa w f) k (M k)) := by
  rcases (show k = 96 ∨ k = 97 ∨ k = 98 ∨ k = 99 ∨ k = 100 ∨ k = 101 ∨ k = 102 ∨ k = 103 ∨ k = 104 ∨ k = 105 ∨ k = 106 ∨ k = 107 ∨ k = 108 ∨ k = 109 ∨ k = 110 ∨ k = 111 by omega) with rfl | rfl | rfl | rfl | rfl | rfl | rfl | rfl | rfl | rfl | rfl | rfl | rfl | rfl | rfl | rfl
  · exact ex_96
  · exact ex_97
  · exact ex_98
  · exact ex_99
  · exact ex_100
  · exact ex_101
  · exact ex_102
  · exact ex_103
  · exact ex_104
  · exact ex_105
  · exact ex_106
  · exact ex_107
  · exact ex_108
  · exact ex_109
  · exact ex_110
  · exact ex_111
theorem exg_112 {w : WE} {f : Nat → Nat} {M : Mem} (hf : ∀ j, j < 129 → f j = bw_ad w j) (hg : ∀ j, j < bw_nn M → f j = bw_ad w j) (hw : bw_lwf M = true) (k : Nat) (h1 : 112 ≤ k) (h2 : k < 128) : bw_eqE (bw_E w k (M k)) (bw_E (bw_wa w f) k (M k)) := by
  rcases (show k = 112 ∨ k = 113 ∨ k = 114 ∨ k = 115 ∨ k = 116 ∨ k = 117 ∨ k = 118 ∨ k = 119 ∨ k = 120 ∨ k = 121 ∨ k = 122 ∨ k = 123 ∨ k = 124 ∨ k = 125 ∨ k = 126 ∨ k = 127 by omega) with rfl | rfl | rfl | rfl | rfl | rfl | rfl | rfl | rfl | rfl | rfl | rfl | rfl | rfl | rfl | rfl
  · exact ex_112
  · exact ex_113
  · exact ex_114
  · exact ex_115
  · exact ex_116
  · exact ex_117
  · exact ex_118
  · exact ex_119
  · exact ex_120
  · exact ex_121
  · exact ex_122
  · exact ex_123
  · exact ex_124
  · exact ex_125
  · exact ex_126
  · exact ex_127
theorem exg_128 {w : WE} {f : Nat → Nat} {M : Mem} (hf : ∀ j, j < 129 → f j = bw_ad w j) (hg : ∀ j, j < bw_nn M → f j = bw_ad w j) (hw : bw_lwf M = true) (k : Nat) (h1 : 128 ≤ k) (h2 : k < 129) : bw_eqE (bw_E w k (M k)) (bw_E (bw_wa w f) k (M k)) := by
  rcases (show k = 128 by omega) with rfl
  · exact ex_128
theorem ex_st {w : WE} {f : Nat → Nat} {M : Mem} (hg : ∀ j, j < bw_nn M → f j = bw_ad w j) (hw : bw_lwf M = true) (k : Nat) (h2 : k < 129) : bw_eqE (bw_E w k (M k)) (bw_E (bw_wa w f) k (M k)) := by
  have hf : ∀ j, j < 129 → f j = bw_ad w j := fun j hj => hg j (bw_kl hj)
  by_cases c0 : k < 16
  · exact exg_0 hf hg hw k (by omega) c0
  by_cases c16 : k < 32
  · exact exg_16 hf hg hw k (by omega) c16
  by_cases c32 : k < 48
  · exact exg_32 hf hg hw k (by omega) c32
  by_cases c48 : k < 64
  · exact exg_48 hf hg hw k (by omega) c48
  by_cases c64 : k < 80
  · exact exg_64 hf hg hw k (by omega) c64
  by_cases c80 : k < 96
  · exact exg_80 hf hg hw k (by omega) c80
  by_cases c96 : k < 112
  · exact exg_96 hf hg hw k (by omega) c96
  by_cases c112 : k < 128
  · exact exg_112 hf hg hw k (by omega) c112
  by_cases c128 : k < 129
  · exact exg_128 hf hg hw k (by omega) c128
  omega
theorem ex_all {w : WE} {f : Nat → Nat} {M : Mem} (hg : ∀ j, j < bw_nn M → f j = bw_ad w j) (hw : bw_lwf M = true) (k : Nat) (hk : k < bw_nn M) : bw_eqE (bw_E w k (M k)) (bw_E (bw_wa w f) k (M k)) := by
  by_cases h : k < 129
  · exact ex_st hg hw k h
  · refine bw_eqr ?_
    unfold bw_E
    rw [bw_st_n (by omega)]
    show bw_lw w k (M k) = bw_lw (bw_wa w f) k (M k)
    unfold bw_lw
    by_cases e : (k - 129) % 3 = 0
    · rw [if_pos e, if_pos e]
      have h1 : k + 2 < bw_nn M := by unfold bw_nn at hk ⊢; omega
      show _ = (Sum.inr (1, [Value.int (M k 0), Value.int (M k 1), Value.ref (f (k + 1)), Value.ref (f (k + 2))]) : va_E)
      rw [hg (k + 1) (by omega), hg (k + 2) h1]
    · rw [if_neg e, if_neg e]
      rfl
/-- one more law -/
def bw_alloc (M : Mem) : Mem := fun b =>
  if b = 0 then upd (M 0) 1000 (M 0 1000 + 1)
  else if b = bw_nn M then (fun j => if j = 0 then M 14 4 else if j = 1 then M 14 3 else 0)
  else if b = bw_nn M + 1 then (fun j => if j = 1000 then M 14 2 else if j < (M 14 2).toNatClampNeg then M 15 j else 0)
  else if b = bw_nn M + 2 then (fun j => if j = 1000 then bw_max 1 (M 14 3) else 0)
  else M b
def bw_fx (w : WE) (M : Mem) (q0 q1 q2 : Nat) : Nat → Nat := fun k => if k = bw_nn M then q0 else if k = bw_nn M + 1 then q1 else if k = bw_nn M + 2 then q2 else bw_ad w k
theorem bw_fx_o {w : WE} {M : Mem} {q0 q1 q2 : Nat} : ∀ j, j < bw_nn M → bw_fx w M q0 q1 q2 j = bw_ad w j := by
  intro j hj
  unfold bw_fx
  rw [if_neg (by omega), if_neg (by omega), if_neg (by omega)]
theorem bw_cnt {M : Mem} (hc : bw_ib (M 0 1000) 100000 = true) : bw_nn (bw_alloc M) = bw_nn M + 3 ∧ bw_lc (M 0 1000 + 1) = bw_nn M ∧ ¬ M 0 1000 + 1 = 0 := by
  have h0 : 0 ≤ M 0 1000 := by
    simp only [bw_ib, Bool.and_eq_true, decide_eq_true_eq] at hc
    exact hc.1
  have hlt := bw_lt hc
  obtain ⟨k, hk, e⟩ := nI_of (bw_ge0 h0)
  have e2 : M 0 1000 + 1 = nI (k + 1) := by rw [e, nI_1]
  rw [e, nI_clamp hk] at hlt
  refine ⟨?_, ?_, ?_⟩
  · have e3 : bw_alloc M 0 1000 = nI (k + 1) := by
      unfold bw_alloc
      rw [if_pos rfl, ← e2]
      unfold upd
      rw [if_pos rfl]
    unfold bw_nn
    rw [e3, e, nI_clamp hk, nI_clamp (by omega)]
    omega
  · unfold bw_lc bw_nn
    rw [e2, e, nI_clamp hk, nI_clamp (by omega)]
    omega
  · rw [e2]
    exact nI_ne0 (by omega) (by omega)
theorem bw_plr {w : WE} {M : Mem} {l : va_W} {k : Nat} {x : Nat × va_E} (h : l[k]? = some x) : (bw_W w M ++ l)[bw_nn M + k]? = some x := by
  have hlen : (bw_W w M).length = bw_nn M := by simp [bw_W]
  rw [List.getElem?_append_right (by omega), hlen, show bw_nn M + k - bw_nn M = k by omega]
  exact h
set_option maxRecDepth 20000 in
theorem bw_grow {w : WE} {M : Mem} {q0 q1 q2 : Nat} {H : Heap} (hw : bw_lwf M = true) (hc : bw_ib (M 0 1000) 100000 = true) (hn : bw_ib (M 14 2) 96 = true) (hops : (bw_max 1 (M 14 3)).toNatClampNeg < 1000)
    (hP : va_P (bw_d w) vwCl (bw_W w M ++ [(q0, .inr (1, [.int (M 14 4), .int (M 14 3), .ref q1, .ref q2])), (q1, .inl (bw_ca w 0, (M 14 2).toNatClampNeg, .inl (va_cpy (M 15) (fun _ => 0) 0 0 (M 14 2).toNatClampNeg))), (q2, .inl (bw_ca w 0, (bw_max 1 (M 14 3)).toNatClampNeg, .inl (fun _ => 0)))]) H)
    (hD : va_D (bw_A w) (bw_W w M ++ [(q0, .inr (1, [.int (M 14 4), .int (M 14 3), .ref q1, .ref q2])), (q1, .inl (bw_ca w 0, (M 14 2).toNatClampNeg, .inl (va_cpy (M 15) (fun _ => 0) 0 0 (M 14 2).toNatClampNeg))), (q2, .inl (bw_ca w 0, (bw_max 1 (M 14 3)).toNatClampNeg, .inl (fun _ => 0)))])) :
    va_P (bw_d w) vwCl (bw_W (bw_wa w (bw_fx w M q0 q1 q2)) (bw_alloc M)) H ∧ va_D (bw_A w) (bw_W (bw_wa w (bw_fx w M q0 q1 q2)) (bw_alloc M)) := by
  obtain ⟨hN, -, -⟩ := bw_cnt hc
  have hlen : (bw_W w M).length = bw_nn M := by simp [bw_W]
  have hpos : 129 ≤ bw_nn M := by unfold bw_nn; omega
  have hn96 := bw_lt hn
  have a0 : ∀ k, k < bw_nn M → bw_ad (bw_wa w (bw_fx w M q0 q1 q2)) k = bw_ad w k := fun k hk => bw_fx_o k hk
  have f0 : bw_ad (bw_wa w (bw_fx w M q0 q1 q2)) (bw_nn M) = q0 := by show bw_fx w M q0 q1 q2 _ = _; unfold bw_fx; rw [if_pos rfl]
  have f1 : bw_ad (bw_wa w (bw_fx w M q0 q1 q2)) (bw_nn M + 1) = q1 := by show bw_fx w M q0 q1 q2 _ = _; unfold bw_fx; rw [if_neg (by omega), if_pos rfl]
  have f2 : bw_ad (bw_wa w (bw_fx w M q0 q1 q2)) (bw_nn M + 2) = q2 := by show bw_fx w M q0 q1 q2 _ = _; unfold bw_fx; rw [if_neg (by omega), if_neg (by omega), if_pos rfl]
  have m0 : (bw_nn M - 129) % 3 = 0 := by unfold bw_nn; omega
  -- the address of a cell among the old list
  have adr : ∀ k, k < bw_nn M + 3 → ∃ e, (bw_W w M ++ [(q0, .inr (1, [.int (M 14 4), .int (M 14 3), .ref q1, .ref q2])), (q1, .inl (bw_ca w 0, (M 14 2).toNatClampNeg, .inl (va_cpy (M 15) (fun _ => 0) 0 0 (M 14 2).toNatClampNeg))), (q2, .inl (bw_ca w 0, (bw_max 1 (M 14 3)).toNatClampNeg, .inl (fun _ => 0)))])[k]? = some (bw_ad (bw_wa w (bw_fx w M q0 q1 q2)) k, e) := by
    intro k hk
    by_cases h : k < bw_nn M
    · rw [a0 k h]
      exact ⟨_, bw_pl h⟩
    · rw [List.getElem?_append_right (by omega), hlen]
      rcases (show k = bw_nn M ∨ k = bw_nn M + 1 ∨ k = bw_nn M + 2 by omega) with rfl | rfl | rfl
      · rw [Nat.sub_self, f0]; exact ⟨_, rfl⟩
      · rw [show bw_nn M + 1 - bw_nn M = 1 by omega, f1]; exact ⟨_, rfl⟩
      · rw [show bw_nn M + 2 - bw_nn M = 2 by omega, f2]; exact ⟨_, rfl⟩
  constructor
  · intro k q hq
    obtain ⟨hk, -⟩ := bw_of hq
    rw [bw_get hk] at hq
    have hq := Option.some.inj hq
    subst hq
    rw [hN] at hk
    by_cases h : k < bw_nn M
    · have hat := hP k _ (bw_pl h)
      rw [a0 k h]
      have hx := ex_all (w := w) (f := bw_fx w M q0 q1 q2) bw_fx_o hw k h (bw_d w) vwCl _ _ hat
      by_cases z : k = 0
      · subst z
        exact hx
      · have e9 : bw_alloc M k = M k := by
          unfold bw_alloc
          rw [if_neg z, if_neg (by omega), if_neg (by omega), if_neg (by omega)]
        rw [e9]
        exact hx
    · have hE : ∀ r, bw_E (bw_wa w (bw_fx w M q0 q1 q2)) k r = bw_lw (bw_wa w (bw_fx w M q0 q1 q2)) k r := by
        intro r
        unfold bw_E
        rw [bw_st_n (by omega)]
      rw [hE]
      rcases (show k = bw_nn M ∨ k = bw_nn M + 1 ∨ k = bw_nn M + 2 by omega) with rfl | rfl | rfl
      · have hat := hP (bw_nn M + 0) _ (bw_plr (k := 0) rfl)
        have e9 : bw_alloc M (bw_nn M) = (fun j => if j = 0 then M 14 4 else if j = 1 then M 14 3 else 0) := by
          unfold bw_alloc
          rw [if_neg (by omega), if_pos rfl]
        unfold bw_lw
        rw [if_pos m0, f0, f1, f2, e9]
        exact hat
      · have hat := hP (bw_nn M + 1) _ (bw_plr (k := 1) rfl)
        have e9 : bw_alloc M (bw_nn M + 1) = (fun j => if j = 1000 then M 14 2 else if j < (M 14 2).toNatClampNeg then M 15 j else 0) := by
          unfold bw_alloc
          rw [if_neg (by omega), if_neg (by omega), if_pos rfl]
        unfold bw_lw
        rw [if_neg (by omega), f1, e9]
        have ec : vp_cell (bw_ca w 0) ((M 14 2).toNatClampNeg, .inl (va_cpy (M 15) (fun _ => 0) 0 0 (M 14 2).toNatClampNeg)) = vp_cell (bw_ca w 0) ((M 14 2).toNatClampNeg, .inl (fun j => if j = 1000 then M 14 2 else if j < (M 14 2).toNatClampNeg then M 15 j else 0)) := by
          refine bw_eqi (fun i hi => ?_)
          simp [hi, va_cpy, show ¬ i = 1000 by omega]
        have e8 : ((fun j : Nat => if j = 1000 then M 14 2 else if j < (M 14 2).toNatClampNeg then M 15 j else 0) 1000) = M 14 2 := if_pos rfl
        rw [e8]
        show H[q1]? = some (vp_cell (bw_ca w 0) (_, .inl _))
        rw [← ec]
        exact hat
      · have hat := hP (bw_nn M + 2) _ (bw_plr (k := 2) rfl)
        have e9 : bw_alloc M (bw_nn M + 2) = (fun j => if j = 1000 then bw_max 1 (M 14 3) else 0) := by
          unfold bw_alloc
          rw [if_neg (by omega), if_neg (by omega), if_neg (by omega), if_pos rfl]
        unfold bw_lw
        rw [if_neg (by omega), f2, e9]
        have ec : vp_cell (bw_ca w 0) ((bw_max 1 (M 14 3)).toNatClampNeg, .inl (fun _ => 0)) = vp_cell (bw_ca w 0) ((bw_max 1 (M 14 3)).toNatClampNeg, .inl (fun j => if j = 1000 then bw_max 1 (M 14 3) else 0)) := by
          refine bw_eqi (fun i hi => ?_)
          rw [if_neg (by omega)]
        have e8 : ((fun j : Nat => if j = 1000 then bw_max 1 (M 14 3) else 0) 1000) = bw_max 1 (M 14 3) := if_pos rfl
        rw [e8]
        show H[q2]? = some (vp_cell (bw_ca w 0) (_, .inl _))
        rw [← ec]
        exact hat
  · refine ⟨fun i j p q hi hj e => ?_, fun k q hk => ?_⟩
    · obtain ⟨h1, e1⟩ := bw_of hi
      obtain ⟨h2, e2⟩ := bw_of hj
      rw [hN] at h1 h2
      obtain ⟨x1, hx1⟩ := adr i h1
      obtain ⟨x2, hx2⟩ := adr j h2
      exact hD.1 i j _ _ hx1 hx2 (show bw_ad (bw_wa w (bw_fx w M q0 q1 q2)) i = bw_ad (bw_wa w (bw_fx w M q0 q1 q2)) j by rw [← e1, ← e2]; exact e)
    · obtain ⟨h1, e1⟩ := bw_of hk
      rw [hN] at h1
      obtain ⟨x1, hx1⟩ := adr k h1
      rw [e1]
      exact hD.2 k _ hx1

