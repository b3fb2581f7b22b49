def bw_tm (i : Nat) : Term := .string "BookBoards$Reader" (match i with | 0 => 60 | 1 => 66 | 2 => 68 | 3 => 70 | 4 => 72 | _ => 74)
theorem ws_str {args : Array Value} {s : State} (hs : ∀ c ∈ flatC (Jvm.Cond.and given_1 narrow_1), c.before args s = true) {A : Nat → Prop} (hA : ∀ a : Nat, a < s.heap.size → ¬ A a) : ∃ adK adV : Nat → Nat, vk_S 6 bw_slen bw_sbyt adK adV A s s.heap ∧ ∀ i : Nat, i < 6 → (bw_tm i).eval args s none [] s = some (.ref (adK i)) := by
  refine vk_Sof (by decide) ?_ ?_ ?_ ?_ ?_ ?_ hA
  · intro i hi
    rcases (show i = 0 ∨ i = 1 ∨ i = 2 ∨ i = 3 ∨ i = 4 ∨ i = 5 by omega) with rfl | rfl | rfl | rfl | rfl | rfl
    · exact hs (Cond.exactly (.string "BookBoards$Reader" 60) "java/lang/String") (by decide +kernel)
    · exact hs (Cond.exactly (.string "BookBoards$Reader" 66) "java/lang/String") (by decide +kernel)
    · exact hs (Cond.exactly (.string "BookBoards$Reader" 68) "java/lang/String") (by decide +kernel)
    · exact hs (Cond.exactly (.string "BookBoards$Reader" 70) "java/lang/String") (by decide +kernel)
    · exact hs (Cond.exactly (.string "BookBoards$Reader" 72) "java/lang/String") (by decide +kernel)
    · exact hs (Cond.exactly (.string "BookBoards$Reader" 74) "java/lang/String") (by decide +kernel)
  · intro i hi
    rcases (show i = 0 ∨ i = 1 ∨ i = 2 ∨ i = 3 ∨ i = 4 ∨ i = 5 by omega) with rfl | rfl | rfl | rfl | rfl | rfl
    · exact hs (Cond.eq (.field (.string "BookBoards$Reader" 60) "java/lang/String" "coder" "B") (.int 0)) (by decide +kernel)
    · exact hs (Cond.eq (.field (.string "BookBoards$Reader" 66) "java/lang/String" "coder" "B") (.int 0)) (by decide +kernel)
    · exact hs (Cond.eq (.field (.string "BookBoards$Reader" 68) "java/lang/String" "coder" "B") (.int 0)) (by decide +kernel)
    · exact hs (Cond.eq (.field (.string "BookBoards$Reader" 70) "java/lang/String" "coder" "B") (.int 0)) (by decide +kernel)
    · exact hs (Cond.eq (.field (.string "BookBoards$Reader" 72) "java/lang/String" "coder" "B") (.int 0)) (by decide +kernel)
    · exact hs (Cond.eq (.field (.string "BookBoards$Reader" 74) "java/lang/String" "coder" "B") (.int 0)) (by decide +kernel)
  · intro i hi
    rcases (show i = 0 ∨ i = 1 ∨ i = 2 ∨ i = 3 ∨ i = 4 ∨ i = 5 by omega) with rfl | rfl | rfl | rfl | rfl | rfl
    · exact hs (Cond.arrayOf (.field (.string "BookBoards$Reader" 60) "java/lang/String" "value" "[B") .byte) (by decide +kernel)
    · exact hs (Cond.arrayOf (.field (.string "BookBoards$Reader" 66) "java/lang/String" "value" "[B") .byte) (by decide +kernel)
    · exact hs (Cond.arrayOf (.field (.string "BookBoards$Reader" 68) "java/lang/String" "value" "[B") .byte) (by decide +kernel)
    · exact hs (Cond.arrayOf (.field (.string "BookBoards$Reader" 70) "java/lang/String" "value" "[B") .byte) (by decide +kernel)
    · exact hs (Cond.arrayOf (.field (.string "BookBoards$Reader" 72) "java/lang/String" "value" "[B") .byte) (by decide +kernel)
    · exact hs (Cond.arrayOf (.field (.string "BookBoards$Reader" 74) "java/lang/String" "value" "[B") .byte) (by decide +kernel)
  · intro i hi
    rcases (show i = 0 ∨ i = 1 ∨ i = 2 ∨ i = 3 ∨ i = 4 ∨ i = 5 by omega) with rfl | rfl | rfl | rfl | rfl | rfl
    · exact hs (Cond.eq (.length (.field (.string "BookBoards$Reader" 60) "java/lang/String" "value" "[B")) (.int 4)) (by decide +kernel)
    · exact hs (Cond.eq (.length (.field (.string "BookBoards$Reader" 66) "java/lang/String" "value" "[B")) (.int 4)) (by decide +kernel)
    · exact hs (Cond.eq (.length (.field (.string "BookBoards$Reader" 68) "java/lang/String" "value" "[B")) (.int 4)) (by decide +kernel)
    · exact hs (Cond.eq (.length (.field (.string "BookBoards$Reader" 70) "java/lang/String" "value" "[B")) (.int 3)) (by decide +kernel)
    · exact hs (Cond.eq (.length (.field (.string "BookBoards$Reader" 72) "java/lang/String" "value" "[B")) (.int 2)) (by decide +kernel)
    · exact hs (Cond.eq (.length (.field (.string "BookBoards$Reader" 74) "java/lang/String" "value" "[B")) (.int 2)) (by decide +kernel)
  · intro i hi j hj
    rcases (show i = 0 ∨ i = 1 ∨ i = 2 ∨ i = 3 ∨ i = 4 ∨ i = 5 by omega) with rfl | rfl | rfl | rfl | rfl | rfl
    · have hj : j < 4 := hj
      rcases (show j = 0 ∨ j = 1 ∨ j = 2 ∨ j = 3 by omega) with rfl | rfl | rfl | rfl
      · exact hs (Cond.eq (.elem (.field (.string "BookBoards$Reader" 60) "java/lang/String" "value" "[B") (.int 0)) (.int 99)) (by decide +kernel)
      · exact hs (Cond.eq (.elem (.field (.string "BookBoards$Reader" 60) "java/lang/String" "value" "[B") (.int 1)) (.int 111)) (by decide +kernel)
      · exact hs (Cond.eq (.elem (.field (.string "BookBoards$Reader" 60) "java/lang/String" "value" "[B") (.int 2)) (.int 115)) (by decide +kernel)
      · exact hs (Cond.eq (.elem (.field (.string "BookBoards$Reader" 60) "java/lang/String" "value" "[B") (.int 3)) (.int 116)) (by decide +kernel)
    · have hj : j < 4 := hj
      rcases (show j = 0 ∨ j = 1 ∨ j = 2 ∨ j = 3 by omega) with rfl | rfl | rfl | rfl
      · exact hs (Cond.eq (.elem (.field (.string "BookBoards$Reader" 66) "java/lang/String" "value" "[B") (.int 0)) (.int 119)) (by decide +kernel)
      · exact hs (Cond.eq (.elem (.field (.string "BookBoards$Reader" 66) "java/lang/String" "value" "[B") (.int 1)) (.int 97)) (by decide +kernel)
      · exact hs (Cond.eq (.elem (.field (.string "BookBoards$Reader" 66) "java/lang/String" "value" "[B") (.int 2)) (.int 108)) (by decide +kernel)
      · exact hs (Cond.eq (.elem (.field (.string "BookBoards$Reader" 66) "java/lang/String" "value" "[B") (.int 3)) (.int 107)) (by decide +kernel)
    · have hj : j < 4 := hj
      rcases (show j = 0 ∨ j = 1 ∨ j = 2 ∨ j = 3 by omega) with rfl | rfl | rfl | rfl
      · exact hs (Cond.eq (.elem (.field (.string "BookBoards$Reader" 68) "java/lang/String" "value" "[B") (.int 0)) (.int 103)) (by decide +kernel)
      · exact hs (Cond.eq (.elem (.field (.string "BookBoards$Reader" 68) "java/lang/String" "value" "[B") (.int 1)) (.int 114)) (by decide +kernel)
      · exact hs (Cond.eq (.elem (.field (.string "BookBoards$Reader" 68) "java/lang/String" "value" "[B") (.int 2)) (.int 111)) (by decide +kernel)
      · exact hs (Cond.eq (.elem (.field (.string "BookBoards$Reader" 68) "java/lang/String" "value" "[B") (.int 3)) (.int 119)) (by decide +kernel)
    · have hj : j < 3 := hj
      rcases (show j = 0 ∨ j = 1 ∨ j = 2 by omega) with rfl | rfl | rfl
      · exact hs (Cond.eq (.elem (.field (.string "BookBoards$Reader" 70) "java/lang/String" "value" "[B") (.int 0)) (.int 104)) (by decide +kernel)
      · exact hs (Cond.eq (.elem (.field (.string "BookBoards$Reader" 70) "java/lang/String" "value" "[B") (.int 1)) (.int 110)) (by decide +kernel)
      · exact hs (Cond.eq (.elem (.field (.string "BookBoards$Reader" 70) "java/lang/String" "value" "[B") (.int 2)) (.int 108)) (by decide +kernel)
    · have hj : j < 2 := hj
      rcases (show j = 0 ∨ j = 1 by omega) with rfl | rfl
      · exact hs (Cond.eq (.elem (.field (.string "BookBoards$Reader" 72) "java/lang/String" "value" "[B") (.int 0)) (.int 104)) (by decide +kernel)
      · exact hs (Cond.eq (.elem (.field (.string "BookBoards$Reader" 72) "java/lang/String" "value" "[B") (.int 1)) (.int 112)) (by decide +kernel)
    · have hj : j < 2 := hj
      rcases (show j = 0 ∨ j = 1 by omega) with rfl | rfl
      · exact hs (Cond.eq (.elem (.field (.string "BookBoards$Reader" 74) "java/lang/String" "value" "[B") (.int 0)) (.int 112)) (by decide +kernel)
      · exact hs (Cond.eq (.elem (.field (.string "BookBoards$Reader" 74) "java/lang/String" "value" "[B") (.int 1)) (.int 121)) (by decide +kernel)
  · intro i j hi hj hij
    rcases (show i = 0 ∨ i = 1 ∨ i = 2 ∨ i = 3 ∨ i = 4 ∨ i = 5 by omega) with rfl | rfl | rfl | rfl | rfl | rfl <;> rcases (show j = 0 ∨ j = 1 ∨ j = 2 ∨ j = 3 ∨ j = 4 ∨ j = 5 by omega) with rfl | rfl | rfl | rfl | rfl | rfl <;> first | exact absurd rfl hij | exact Or.inl (hs _ (by decide +kernel)) | exact Or.inr (hs _ (by decide +kernel))
theorem bw_nest_in : ∀ q ∈ bw_nest, Cond.methodLinkNest q.1 q.2.1 q.2.2.1 q.2.2.2 ∈ lw_tbl := by
  intro q hq
  unfold bw_nest at hq
  simp only [List.mem_cons, List.not_mem_nil, or_false] at hq
  rcases hq with rfl | rfl | rfl | rfl | rfl | rfl | rfl | rfl | rfl | rfl | rfl | rfl | rfl | rfl | rfl | rfl | rfl | rfl | rfl
  · exact List.mem_of_getElem? (i := 102) (by decide +kernel)
  · exact List.mem_of_getElem? (i := 203) (by decide +kernel)
  · exact List.mem_of_getElem? (i := 265) (by decide +kernel)
  · exact List.mem_of_getElem? (i := 284) (by decide +kernel)
  · exact List.mem_of_getElem? (i := 290) (by decide +kernel)
  · exact List.mem_of_getElem? (i := 335) (by decide +kernel)
  · exact List.mem_of_getElem? (i := 352) (by decide +kernel)
  · exact List.mem_of_getElem? (i := 357) (by decide +kernel)
  · exact List.mem_of_getElem? (i := 359) (by decide +kernel)
  · exact List.mem_of_getElem? (i := 447) (by decide +kernel)
  · exact List.mem_of_getElem? (i := 498) (by decide +kernel)
  · exact List.mem_of_getElem? (i := 509) (by decide +kernel)
  · exact List.mem_of_getElem? (i := 737) (by decide +kernel)
  · exact List.mem_of_getElem? (i := 775) (by decide +kernel)
  · exact List.mem_of_getElem? (i := 990) (by decide +kernel)
  · exact List.mem_of_getElem? (i := 998) (by decide +kernel)
  · exact List.mem_of_getElem? (i := 1044) (by decide +kernel)
  · exact List.mem_of_getElem? (i := 1055) (by decide +kernel)
  · exact List.mem_of_getElem? (i := 1067) (by decide +kernel)
theorem vk_S.ag {N : Nat} {len : List Nat} {byt : List (List Int32)} {adK adV aK aV : Nat → Nat} {A : Nat → Prop} {U : State} {H : Heap} (h : vk_S N len byt adK adV A U H) (h1 : ∀ i, i < N → aK i = adK i) (h2 : ∀ i, i < N → aV i = adV i) : vk_S N len byt aK aV A U H := by
  refine ⟨fun i hi => ?_, fun i j hi hj e => h.2 i j hi hj (by rw [← h1 i hi, ← h1 j hj]; exact e)⟩
  rw [h1 i hi, h2 i hi]
  exact h.1 i hi
theorem ws_old {args : Array Value} {s : State} (hts : ∀ x ∈ lw_tbl, x.before args s = true) (hgv : (Jvm.Cond.and given_1 narrow_1).before args s = true) : ∃ oa : Nat → Nat, ∀ (D : va_G) (ca ad : Nat → Nat), bw_Old (D, ca, ad, s.heap.size, oa) s s.heap := by
  have hs := flat_of_before _ hgv
  have hA : ∀ a : Nat, a < s.heap.size → ¬ (fun q : Nat => s.heap.size ≤ q) a := fun a h => Nat.not_le.mpr h
  obtain ⟨adK, adV, hS, hE⟩ := ws_str hs hA
  obtain ⟨t0, ht0, hT0⟩ := va_Tof (tm := .static "BookBoards" "ABOVE" "[I") (ty := .int) (N := 6) (f := fun j => .int (bw_ab j)) (args := args) (s := s) (by decide) (hs (Cond.arrayOf (.static "BookBoards" "ABOVE" "[I") .int) (by decide +kernel)) (va_eqt (hs (Cond.eq (.length (.static "BookBoards" "ABOVE" "[I")) (.int 6)) (by decide +kernel))) (by
    intro j hj
    rcases (show j = 0 ∨ j = 1 ∨ j = 2 ∨ j = 3 ∨ j = 4 ∨ j = 5 by omega) with rfl | rfl | rfl | rfl | rfl | rfl
    · exact va_eqt (hs (Cond.eq (.elem (.static "BookBoards" "ABOVE" "[I") (.int 0)) (.int (-1))) (by decide +kernel))
    · exact va_eqt (hs (Cond.eq (.elem (.static "BookBoards" "ABOVE" "[I") (.int 1)) (.int 0)) (by decide +kernel))
    · exact va_eqt (hs (Cond.eq (.elem (.static "BookBoards" "ABOVE" "[I") (.int 2)) (.int 0)) (by decide +kernel))
    · exact va_eqt (hs (Cond.eq (.elem (.static "BookBoards" "ABOVE" "[I") (.int 3)) (.int 1)) (by decide +kernel))
    · exact va_eqt (hs (Cond.eq (.elem (.static "BookBoards" "ABOVE" "[I") (.int 4)) (.int 2)) (by decide +kernel))
    · exact va_eqt (hs (Cond.eq (.elem (.static "BookBoards" "ABOVE" "[I") (.int 5)) (.int 0)) (by decide +kernel))) hA
  refine ⟨fun k => if k = 0 then t0 else if k < 10 then adK (k - 1) else adV (k - 10), fun D ca ad => ⟨?_, ?_, ?_, ?_, ?_, ?_, ?_, ?_⟩⟩
  · exact va_Zof (hts (Cond.laysStatic "BookBoards" "ABOVE" "[I") (List.mem_of_getElem? (i := 597) (by decide +kernel))) (hts (Cond.initialized "BookBoards") (List.mem_of_getElem? (i := 64) (by decide +kernel))) ht0 hA
  · exact hT0
  · exact va_Zof (hts (Cond.laysStatic "java/lang/String" "COMPACT_STRINGS" "Z") (List.mem_of_getElem? (i := 794) (by decide +kernel))) (hts (Cond.initialized "java/lang/String") (List.mem_of_getElem? (i := 78) (by decide +kernel))) (va_eqt (hs (Cond.eq (.static "java/lang/String" "COMPACT_STRINGS" "Z") (.int 1)) (by decide +kernel))) hA
  · refine hS.ag (fun i hi => ?_) (fun i hi => ?_)
    · show (if 1 + i = 0 then t0 else if 1 + i < 10 then adK (1 + i - 1) else adV (1 + i - 10)) = adK i
      rw [if_neg (by omega), if_pos (by omega), show 1 + i - 1 = i by omega]
    · show (if 10 + i = 0 then t0 else if 10 + i < 10 then adK (10 + i - 1) else adV (10 + i - 10)) = adV i
      rw [if_neg (by omega), if_neg (by omega), show 10 + i - 10 = i by omega]
  · intro i q hq
    have hi : i < 6 := (List.getElem?_eq_some_iff.mp hq).1
    have hz := hE i hi
    rcases (show i = 0 ∨ i = 1 ∨ i = 2 ∨ i = 3 ∨ i = 4 ∨ i = 5 by omega) with rfl | rfl | rfl | rfl | rfl | rfl
    · cases hq
      exact vk_R.of (hts (Cond.stringRef "BookBoards$Reader" 60 "cost") (List.mem_of_getElem? (i := 780) (by decide +kernel))) hz
    · cases hq
      exact vk_R.of (hts (Cond.stringRef "BookBoards$Reader" 66 "walk") (List.mem_of_getElem? (i := 833) (by decide +kernel))) hz
    · cases hq
      exact vk_R.of (hts (Cond.stringRef "BookBoards$Reader" 68 "grow") (List.mem_of_getElem? (i := 834) (by decide +kernel))) hz
    · cases hq
      exact vk_R.of (hts (Cond.stringRef "BookBoards$Reader" 70 "hnl") (List.mem_of_getElem? (i := 860) (by decide +kernel))) hz
    · cases hq
      exact vk_R.of (hts (Cond.stringRef "BookBoards$Reader" 72 "hp") (List.mem_of_getElem? (i := 861) (by decide +kernel))) hz
    · cases hq
      exact vk_R.of (hts (Cond.stringRef "BookBoards$Reader" 74 "py") (List.mem_of_getElem? (i := 862) (by decide +kernel))) hz
  · rcases va_Zqof (A := fun q : Nat => s.heap.size ≤ q) (hts (Cond.laysStatic "jdk/internal/util/Preconditions" "SIOOBE_FORMATTER" "Ljava/util/function/BiFunction;") (List.mem_of_getElem? (i := 810) (by decide +kernel))) (hts (Cond.initialized "jdk/internal/util/Preconditions") (List.mem_of_getElem? (i := 80) (by decide +kernel))) (hs (Cond.isRef (.static "jdk/internal/util/Preconditions" "SIOOBE_FORMATTER" "Ljava/util/function/BiFunction;")) (by decide +kernel)) hA with h | ⟨t, h⟩
    · exact ⟨none, h⟩
    · exact ⟨some t, h⟩
  · exact ⟨va_AO.of (hts (Cond.arrayOver (.object "BookBoards$Board")) (List.mem_of_getElem? (i := 98) (by decide +kernel))), va_AO.of (hts (Cond.arrayOver (.object "BookBoards$Law")) (List.mem_of_getElem? (i := 100) (by decide +kernel))), va_AO.of (hts (Cond.arrayOver (.object "BookBoards$Sheet")) (List.mem_of_getElem? (i := 331) (by decide +kernel))), va_AO.of (hts (Cond.arrayOver (.object "BookBoards$Slot")) (List.mem_of_getElem? (i := 333) (by decide +kernel)))⟩
  · intro q hq
    exact va_Nw.of rfl (hts _ (bw_nest_in q hq))
theorem ws_cls {args : Array Value} {s : State} (hts : ∀ x ∈ lw_tbl, x.before args s = true) : ∃ (D : va_G) (ca : Nat → ClassId), ∀ (ad : Nat → Nat) (bz : Nat) (oa : Nat → Nat), va_K D vwCl (bw_T (D, ca, ad, bz, oa)) s := by
  obtain ⟨c0, i0, hk0⟩ := u_known (C := RX0) (T := TX0) (N := 4) (n := 4) hts inX0 (hts (.instantiable RX0 4) (List.mem_of_getElem? (i := 101) (by decide +kernel)))
  obtain ⟨c1, i1, hk1⟩ := u_known (C := RX1) (T := TX1) (N := 4) (n := 4) hts inX1 (hts (.instantiable RX1 4) (List.mem_of_getElem? (i := 930) (by decide +kernel)))
  obtain ⟨c2, i2, hk2⟩ := u_known (C := RX2) (T := TX2) (N := 16) (n := 16) hts inX2 (hts (.instantiable RX2 16) (List.mem_of_getElem? (i := 202) (by decide +kernel)))
  obtain ⟨c3, i3, hk3⟩ := u_known (C := RX3) (T := TX3) (N := 5) (n := 5) hts inX3 (hts (.instantiable RX3 5) (List.mem_of_getElem? (i := 283) (by decide +kernel)))
  obtain ⟨c4, i4, hk4⟩ := u_known (C := RX4) (T := TX4) (N := 3) (n := 3) hts inX4 (hts (.instantiable RX4 3) (List.mem_of_getElem? (i := 334) (by decide +kernel)))
  obtain ⟨c5, i5, hk5⟩ := u_known (C := RX5) (T := TX5) (N := 4) (n := 4) hts inX5 (hts (.instantiable RX5 4) (List.mem_of_getElem? (i := 351) (by decide +kernel)))
  obtain ⟨c6, i6, hk6⟩ := u_known (C := RX6) (T := TX6) (N := 15) (n := 15) hts inX6 (hts (.instantiable RX6 15) (List.mem_of_getElem? (i := 92) (by decide +kernel)))
  obtain ⟨c7, i7, hk7⟩ := u_known (C := RX7) (T := TX7) (N := 5) (n := 5) hts inX7 (hts (.instantiable RX7 5) (List.mem_of_getElem? (i := 289) (by decide +kernel)))
  obtain ⟨c8, i8, hk8⟩ := u_known (C := RX8) (T := TX8) (N := 4) (n := 4) hts inX8 (hts (.instantiable RX8 4) (List.mem_of_getElem? (i := 264) (by decide +kernel)))
  obtain ⟨c9, i9, hk9⟩ := u_known (C := RX9) (T := TX9) (N := 15) (n := 15) hts inX9 (hts (.instantiable RX9 15) (List.mem_of_getElem? (i := 84) (by decide +kernel)))
  obtain ⟨c10, i10, hk10⟩ := u_known (C := RX10) (T := TX10) (N := 55) (n := 55) hts inX10 (hts (.instantiable RX10 55) (List.mem_of_getElem? (i := 1138) (by decide +kernel)))
  obtain ⟨a0, kA0, cp0, e0a, e0b, e0c⟩ := Cond.arrayClass_spec (hts (.arrayClass .int) (List.mem_of_getElem? (i := 127) (by decide +kernel)))
  obtain ⟨a1, kA1, cp1, e1a, e1b, e1c⟩ := Cond.arrayClass_spec (hts (.arrayClass .boolean) (List.mem_of_getElem? (i := 128) (by decide +kernel)))
  obtain ⟨a2, kA2, cp2, e2a, e2b, e2c⟩ := Cond.arrayClass_spec (hts (.arrayClass .char) (List.mem_of_getElem? (i := 1309) (by decide +kernel)))
  obtain ⟨cp3, a3, kA3, e3a, _, e3b, e3c, e3d⟩ := Cond.arrayOver_spec (hts (.arrayOver (.object "BookBoards$Board")) (List.mem_of_getElem? (i := 98) (by decide +kernel)))
  obtain ⟨cp4, a4, kA4, e4a, _, e4b, e4c, e4d⟩ := Cond.arrayOver_spec (hts (.arrayOver (.object "BookBoards$Law")) (List.mem_of_getElem? (i := 100) (by decide +kernel)))
  obtain ⟨cp5, a5, kA5, e5a, _, e5b, e5c, e5d⟩ := Cond.arrayOver_spec (hts (.arrayOver (.object "BookBoards$Sheet")) (List.mem_of_getElem? (i := 331) (by decide +kernel)))
  obtain ⟨cp6, a6, kA6, e6a, _, e6b, e6c, e6d⟩ := Cond.arrayOver_spec (hts (.arrayOver (.object "BookBoards$Slot")) (List.mem_of_getElem? (i := 333) (by decide +kernel)))
  refine ⟨(fun k => if k = 0 then c0 else if k = 1 then c1 else if k = 2 then c2 else if k = 3 then c3 else if k = 4 then c4 else if k = 5 then c5 else if k = 6 then c6 else if k = 7 then c7 else if k = 8 then c8 else if k = 9 then c9 else c10, fun k => if k = 0 then i0 else if k = 1 then i1 else if k = 2 then i2 else if k = 3 then i3 else if k = 4 then i4 else if k = 5 then i5 else if k = 6 then i6 else if k = 7 then i7 else if k = 8 then i8 else if k = 9 then i9 else i10), fun k => if k = 0 then a0 else if k = 1 then a1 else if k = 2 then a2 else if k = 3 then a3 else if k = 4 then a4 else if k = 5 then a5 else a6, fun ad bz oa => ⟨?_, ?_⟩⟩
  · intro k q hq
    have hk : k < 11 := (List.getElem?_eq_some_iff.mp hq).1
    rcases (show k = 0 ∨ k = 1 ∨ k = 2 ∨ k = 3 ∨ k = 4 ∨ k = 5 ∨ k = 6 ∨ k = 7 ∨ k = 8 ∨ k = 9 ∨ k = 10 by omega) with rfl | rfl | rfl | rfl | rfl | rfl | rfl | rfl | rfl | rfl | rfl
    · cases hq; exact hk0
    · cases hq; exact hk1
    · cases hq; exact hk2
    · cases hq; exact hk3
    · cases hq; exact hk4
    · cases hq; exact hk5
    · cases hq; exact hk6
    · cases hq; exact hk7
    · cases hq; exact hk8
    · cases hq; exact hk9
    · cases hq; exact hk10
  · intro k q hq
    have hk : k < 7 := (List.getElem?_eq_some_iff.mp hq).1
    rcases (show k = 0 ∨ k = 1 ∨ k = 2 ∨ k = 3 ∨ k = 4 ∨ k = 5 ∨ k = 6 by omega) with rfl | rfl | rfl | rfl | rfl | rfl | rfl
    · cases hq; exact ⟨fun n z => ⟨fun k h => (by cases h), kA0, e0b, cp0, e0c⟩, e0a⟩
    · cases hq; exact ⟨fun n z => ⟨fun k h => (by cases h), kA1, e1b, cp1, e1c⟩, e1a⟩
    · cases hq; exact ⟨fun n z => ⟨fun k h => (by cases h), kA2, e2b, cp2, e2c⟩, e2a⟩
    · cases hq; exact ⟨fun n z => ⟨fun k h => (by cases h), kA3, e3b, cp3, e3c⟩, kA3, cp3, e3b, e3c, e3a, e3d⟩
    · cases hq; exact ⟨fun n z => ⟨fun k h => (by cases h), kA4, e4b, cp4, e4c⟩, kA4, cp4, e4b, e4c, e4a, e4d⟩
    · cases hq; exact ⟨fun n z => ⟨fun k h => (by cases h), kA5, e5b, cp5, e5c⟩, kA5, cp5, e5b, e5c, e5a, e5d⟩
    · cases hq; exact ⟨fun n z => ⟨fun k h => (by cases h), kA6, e6b, cp6, e6c⟩, kA6, cp6, e6b, e6c, e6a, e6d⟩
