set_option maxRecDepth 20000 in
set_option maxHeartbeats 1000000 in
theorem th_X2_lineOf_L2 {w : WE} {M : Mem} {v1 : Int32} {out : Int32} : ∀ (n : Nat) (v2 : Int32), f_X2_lineOf_L2 M v1 n v2 = some out → RW w 0 0 0 0 0 cX2_lineOf RX2 3 (some .int) (bw_Z w (bw_pi (out) M)) 2 [(0, .ref (bw_ad w 1)), (1, .int v1), (2, .int v2)] [] M := by
  intro n
  induction n with
  | zero => intro v2 h; cases h
  | succ n ih =>
    intro v2 h
    rw [f_X2_lineOf_L2] at h
    refine rw_iload_n dX2_lineOf_2 rfl rfl ?_
    refine rw_aload_n dX2_lineOf_3 rfl rfl ?_
    refine rw_get dX2_lineOf_4 fl_RX2_99 (sh_plan w) (bw_kl (by decide)) rfl ?_
    refine rw_icmp_ge (tgt := 30) dX2_lineOf_7 (by decide) (fun c1 => ?_) (fun c1 => ?_)
    · have h := bw_it c1 h
      refine rw_ldc dX2_lineOf_30 cn_RX2_110 ?_
      have h := Option.some.inj h
      subst h
      exact rw_iret dX2_lineOf_32 ⟨rfl, rfl⟩
    · have h := bw_if c1 h
      refine rw_iload_n dX2_lineOf_10 rfl rfl ?_
      refine rw_aload_n dX2_lineOf_11 rfl rfl ?_
      refine rw_get dX2_lineOf_12 fl_RX2_34 (sh_plan w) (bw_kl (by decide)) rfl ?_
      refine rw_iload_n dX2_lineOf_15 rfl rfl ?_
      refine rw_iconst (v := 1) dX2_lineOf_16 (by decide) ?_
      refine rw_iadd dX2_lineOf_17 ?_
      obtain ⟨g2, h⟩ := bw_gd h
      refine rw_iald dX2_lineOf_18 (sh_p_first w) (bw_kl (by decide)) (bw_in g2) ?_
      refine rw_icmp_ge (tgt := 24) dX2_lineOf_19 (by decide) (fun c3 => ?_) (fun c3 => ?_)
      · have h := bw_it c3 h
        refine rw_inc dX2_lineOf_24 rfl (by decide) ?_
        refine rw_goto (tgt := 2) dX2_lineOf_27 (by decide) ?_
        exact rw_sub (rw_lc rfl (rw_lc rfl (rw_lc rfl rw_lz))) (ih (v2 + 1) h)
      · have h := bw_if c3 h
        refine rw_iload_n dX2_lineOf_22 rfl rfl ?_
        have h := Option.some.inj h
        subst h
        exact rw_iret dX2_lineOf_23 ⟨rfl, rfl⟩
set_option maxRecDepth 20000 in
set_option maxHeartbeats 1000000 in
theorem ct_X2_lineOf {w : WE} {M : Mem} {v1 : Int32} {out : Int32} (h : f_X2_lineOf M v1 = some out) : Ct w 0 yX2_lineOf cX2_lineOf 3 (some .int) [.ref (bw_ad w 1), .int v1] M (bw_pi (out) M) := by
  refine Ct.of (own := RX2) rfl (by decide) (by intro v hv; simp only [List.mem_cons, List.not_mem_nil, or_false] at hv; rcases hv with rfl | rfl <;> first | rfl | exact bw_cat_rf _) (Nat.le_of_ble_eq_true rfl) ?_
  unfold f_X2_lineOf at h
  show RW w 0 0 0 0 0 cX2_lineOf RX2 3 (some .int) (bw_Z w (bw_pi (out) M)) 0 [(0, .ref (bw_ad w 1)), (1, .int v1)] [] M
  refine rw_iconst (v := 0) dX2_lineOf_0 (by decide) ?_
  refine rw_istore_n dX2_lineOf_1 rfl (by decide) ?_
  exact rw_sub (rw_lc rfl (rw_lc rfl (rw_lc rfl rw_lz))) (th_X2_lineOf_L2 bw_fu (0 : Int32) h)
set_option maxRecDepth 20000 in
set_option maxHeartbeats 1000000 in
theorem ct_X2_booksOf {w : WE} {M : Mem} {v1 : Int32} {out : Int32} (h : f_X2_booksOf M v1 = some out) : Ct w 1 yX2_booksOf cX2_booksOf 2 (some .int) [.ref (bw_ad w 1), .int v1] M (bw_pi (out) M) := by
  refine Ct.of (own := RX2) rfl (by decide) (by intro v hv; simp only [List.mem_cons, List.not_mem_nil, or_false] at hv; rcases hv with rfl | rfl <;> first | rfl | exact bw_cat_rf _) (Nat.le_of_ble_eq_true rfl) ?_
  unfold f_X2_booksOf at h
  show RW w 1 0 0 0 0 cX2_booksOf RX2 2 (some .int) (bw_Z w (bw_pi (out) M)) 0 [(0, .ref (bw_ad w 1)), (1, .int v1)] [] M
  refine rw_iload_n dX2_booksOf_0 rfl rfl ?_
  refine rw_iconst (v := 0) dX2_booksOf_1 (by decide) ?_
  refine rw_aload_n dX2_booksOf_2 rfl rfl ?_
  refine rw_get dX2_booksOf_3 fl_RX2_99 (sh_plan w) (bw_kl (by decide)) rfl ?_
  refine rw_iconst (v := 1) dX2_booksOf_6 (by decide) ?_
  refine rw_isub dX2_booksOf_7 ?_
  refine rw_callN3 dX2_booksOf_8 nx_RX2_95 ms_X9_isWithin (ct_X9_isWithin rfl) (Nat.le_of_ble_eq_true rfl) (Nat.le_of_ble_eq_true rfl) (bw_kkz (fun z1 => ?_))
  refine rw_if_eq (tgt := 32) dX2_booksOf_11 (by decide) (fun c2 => ?_) (fun c2 => ?_)
  · have h := bw_it c2 h
    refine rw_iconst (v := 0) dX2_booksOf_32 (by decide) ?_
    have h := Option.some.inj h
    subst h
    exact rw_iret dX2_booksOf_33 ⟨rfl, rfl⟩
  · have h := bw_if c2 h
    refine rw_aload_n dX2_booksOf_14 rfl rfl ?_
    refine rw_get dX2_booksOf_15 fl_RX2_34 (sh_plan w) (bw_kl (by decide)) rfl ?_
    refine rw_iload_n dX2_booksOf_18 rfl rfl ?_
    refine rw_iconst (v := 1) dX2_booksOf_19 (by decide) ?_
    refine rw_iadd dX2_booksOf_20 ?_
    obtain ⟨g3, h⟩ := bw_gd h
    refine rw_iald dX2_booksOf_21 (sh_p_first w) (bw_kl (by decide)) (bw_in g3) ?_
    refine rw_aload_n dX2_booksOf_22 rfl rfl ?_
    refine rw_get dX2_booksOf_23 fl_RX2_34 (sh_plan w) (bw_kl (by decide)) rfl ?_
    refine rw_iload_n dX2_booksOf_26 rfl rfl ?_
    obtain ⟨g4, h⟩ := bw_gd h
    refine rw_iald dX2_booksOf_27 (sh_p_first w) (bw_kl (by decide)) (bw_in g4) ?_
    refine rw_isub dX2_booksOf_28 ?_
    refine rw_goto (tgt := 33) dX2_booksOf_29 (by decide) ?_
    have h := Option.some.inj h
    subst h
    exact rw_iret dX2_booksOf_33 ⟨rfl, rfl⟩
set_option maxRecDepth 20000 in
set_option maxHeartbeats 1000000 in
theorem th_X2_thicknessOf_L33 {w : WE} {M : Mem} {v1 : Int32} {v3 : Int32} {out : Int32} : ∀ (n : Nat) (v2 : Int32) (v4 : Int32), f_X2_thicknessOf_L33 M v1 v3 n v2 v4 = some out → RW w 2 0 0 0 0 cX2_thicknessOf RX2 5 (some .int) (bw_Z w (bw_pi (out) M)) 33 [(0, .ref (bw_ad w 1)), (1, .int v1), (2, .int v2), (3, .int v3), (4, .int v4)] [] M := by
  intro n
  induction n with
  | zero => intro v2 v4 h; cases h
  | succ n ih =>
    intro v2 v4 h
    rw [f_X2_thicknessOf_L33] at h
    refine rw_iload dX2_thicknessOf_33 rfl ?_
    refine rw_aload_n dX2_thicknessOf_35 rfl rfl ?_
    refine rw_iload_n dX2_thicknessOf_36 rfl rfl ?_
    obtain ⟨q3, hq3, h⟩ := bw_bd h
    refine rw_callV1 dX2_thicknessOf_37 ln_RX2_137 mv_X2_booksOf (sh_plan w) (bw_kl (by decide)) (ct_X2_booksOf hq3) (Nat.le_of_ble_eq_true rfl) (Nat.le_of_ble_eq_true rfl) (bw_kki ?_)
    refine rw_icmp_ge (tgt := 61) dX2_thicknessOf_40 (by decide) (fun c4 => ?_) (fun c4 => ?_)
    · have h := bw_it c4 h
      refine rw_iload_n dX2_thicknessOf_61 rfl rfl ?_
      have h := Option.some.inj h
      subst h
      exact rw_iret dX2_thicknessOf_62 ⟨rfl, rfl⟩
    · have h := bw_if c4 h
      refine rw_iload_n dX2_thicknessOf_43 rfl rfl ?_
      refine rw_aload_n dX2_thicknessOf_44 rfl rfl ?_
      refine rw_get dX2_thicknessOf_45 fl_RX2_15 (sh_plan w) (bw_kl (by decide)) rfl ?_
      refine rw_iload_n dX2_thicknessOf_48 rfl rfl ?_
      refine rw_iload dX2_thicknessOf_49 rfl ?_
      refine rw_iadd dX2_thicknessOf_51 ?_
      obtain ⟨g5, h⟩ := bw_gd h
      refine rw_iald dX2_thicknessOf_52 (sh_p_thick w) (bw_kl (by decide)) (bw_in g5) ?_
      refine rw_iadd dX2_thicknessOf_53 ?_
      obtain ⟨x6, hx6, h⟩ := bw_mlE h
      refine rw_ti hx6 ?_
      refine rw_istore_n dX2_thicknessOf_54 rfl (by decide) ?_
      refine rw_inc dX2_thicknessOf_55 rfl (by decide) ?_
      refine rw_goto (tgt := 33) dX2_thicknessOf_58 (by decide) ?_
      exact rw_sub (rw_lc rfl (rw_lc rfl (rw_lc rfl (rw_lc rfl (rw_lc rfl rw_lz))))) (ih x6 (v4 + 1) h)
set_option maxRecDepth 20000 in
set_option maxHeartbeats 1000000 in
theorem th_X2_thicknessOf_J29 {w : WE} {M : Mem} {v1 : Int32} {v2 : Int32} {s0 : Int32} {out : Int32} (h : f_X2_thicknessOf_J29 M v1 v2 s0 = some out) : RW w 2 0 0 0 0 cX2_thicknessOf RX2 5 (some .int) (bw_Z w (bw_pi (out) M)) 29 [(0, .ref (bw_ad w 1)), (1, .int v1), (2, .int v2)] [.int s0] M := by
  unfold f_X2_thicknessOf_J29 at h
  refine rw_istore_n dX2_thicknessOf_29 rfl (by decide) ?_
  refine rw_iconst (v := 0) dX2_thicknessOf_30 (by decide) ?_
  refine rw_istore dX2_thicknessOf_31 (by decide) ?_
  exact rw_sub (rw_lc rfl (rw_lc rfl (rw_lc rfl (rw_lc rfl (rw_lc rfl rw_lz))))) (th_X2_thicknessOf_L33 bw_fu v2 (0 : Int32) h)
set_option maxRecDepth 20000 in
set_option maxHeartbeats 1000000 in
theorem ct_X2_thicknessOf {w : WE} {M : Mem} {v1 : Int32} {out : Int32} (h : f_X2_thicknessOf M v1 = some out) : Ct w 2 yX2_thicknessOf cX2_thicknessOf 5 (some .int) [.ref (bw_ad w 1), .int v1] M (bw_pi (out) M) := by
  refine Ct.of (own := RX2) rfl (by decide) (by intro v hv; simp only [List.mem_cons, List.not_mem_nil, or_false] at hv; rcases hv with rfl | rfl <;> first | rfl | exact bw_cat_rf _) (Nat.le_of_ble_eq_true rfl) ?_
  unfold f_X2_thicknessOf at h
  show RW w 2 0 0 0 0 cX2_thicknessOf RX2 5 (some .int) (bw_Z w (bw_pi (out) M)) 0 [(0, .ref (bw_ad w 1)), (1, .int v1)] [] M
  refine rw_iconst (v := 0) dX2_thicknessOf_0 (by decide) ?_
  refine rw_istore_n dX2_thicknessOf_1 rfl (by decide) ?_
  refine rw_iload_n dX2_thicknessOf_2 rfl rfl ?_
  refine rw_iconst (v := 0) dX2_thicknessOf_3 (by decide) ?_
  refine rw_aload_n dX2_thicknessOf_4 rfl rfl ?_
  refine rw_get dX2_thicknessOf_5 fl_RX2_99 (sh_plan w) (bw_kl (by decide)) rfl ?_
  refine rw_iconst (v := 1) dX2_thicknessOf_8 (by decide) ?_
  refine rw_isub dX2_thicknessOf_9 ?_
  refine rw_callN3 dX2_thicknessOf_10 nx_RX2_95 ms_X9_isWithin (ct_X9_isWithin rfl) (Nat.le_of_ble_eq_true rfl) (Nat.le_of_ble_eq_true rfl) (bw_kkz (fun z1 => ?_))
  refine rw_if_eq (tgt := 25) dX2_thicknessOf_13 (by decide) (fun c2 => ?_) (fun c2 => ?_)
  · have h := bw_it c2 h
    refine rw_aload_n dX2_thicknessOf_25 rfl rfl ?_
    refine rw_get dX2_thicknessOf_26 fl_RX2_46 (sh_plan w) (bw_kl (by decide)) rfl ?_
    exact rw_sub (rw_lc rfl (rw_lc rfl (rw_lc rfl rw_lz))) (th_X2_thicknessOf_J29 h)
  · have h := bw_if c2 h
    refine rw_aload_n dX2_thicknessOf_16 rfl rfl ?_
    refine rw_get dX2_thicknessOf_17 fl_RX2_34 (sh_plan w) (bw_kl (by decide)) rfl ?_
    refine rw_iload_n dX2_thicknessOf_20 rfl rfl ?_
    obtain ⟨g7, h⟩ := bw_gd h
    refine rw_iald dX2_thicknessOf_21 (sh_p_first w) (bw_kl (by decide)) (bw_in g7) ?_
    refine rw_goto (tgt := 29) dX2_thicknessOf_22 (by decide) ?_
    exact rw_sub (rw_lc rfl (rw_lc rfl (rw_lc rfl rw_lz))) (th_X2_thicknessOf_J29 h)
set_option maxRecDepth 20000 in
set_option maxHeartbeats 1000000 in
theorem th_X2_tallOf_L33 {w : WE} {M : Mem} {v1 : Int32} {v3 : Int32} {out : Int32} : ∀ (n : Nat) (v2 : Int32) (v4 : Int32), f_X2_tallOf_L33 M v1 v3 n v2 v4 = some out → RW w 2 0 0 0 0 cX2_tallOf RX2 5 (some .int) (bw_Z w (bw_pi (out) M)) 33 [(0, .ref (bw_ad w 1)), (1, .int v1), (2, .int v2), (3, .int v3), (4, .int v4)] [] M := by
  intro n
  induction n with
  | zero => intro v2 v4 h; cases h
  | succ n ih =>
    intro v2 v4 h
    rw [f_X2_tallOf_L33] at h
    refine rw_iload dX2_tallOf_33 rfl ?_
    refine rw_aload_n dX2_tallOf_35 rfl rfl ?_
    refine rw_iload_n dX2_tallOf_36 rfl rfl ?_
    obtain ⟨q3, hq3, h⟩ := bw_bd h
    refine rw_callV1 dX2_tallOf_37 ln_RX2_137 mv_X2_booksOf (sh_plan w) (bw_kl (by decide)) (ct_X2_booksOf hq3) (Nat.le_of_ble_eq_true rfl) (Nat.le_of_ble_eq_true rfl) (bw_kki ?_)
    refine rw_icmp_ge (tgt := 63) dX2_tallOf_40 (by decide) (fun c4 => ?_) (fun c4 => ?_)
    · have h := bw_it c4 h
      refine rw_iload_n dX2_tallOf_63 rfl rfl ?_
      have h := Option.some.inj h
      subst h
      exact rw_iret dX2_tallOf_64 ⟨rfl, rfl⟩
    · have h := bw_if c4 h
      refine rw_iload_n dX2_tallOf_43 rfl rfl ?_
      refine rw_aload_n dX2_tallOf_44 rfl rfl ?_
      refine rw_get dX2_tallOf_45 fl_RX2_11 (sh_plan w) (bw_kl (by decide)) rfl ?_
      refine rw_iload_n dX2_tallOf_48 rfl rfl ?_
      refine rw_iload dX2_tallOf_49 rfl ?_
      refine rw_iadd dX2_tallOf_51 ?_
      obtain ⟨g5, h⟩ := bw_gd h
      refine rw_iald dX2_tallOf_52 (sh_p_high w) (bw_kl (by decide)) (bw_in g5) ?_
      refine rw_mmax dX2_tallOf_53 ln_RX2_111 mm_max_s mm_i mm_max_c (Nat.le_of_ble_eq_true rfl) (Nat.le_of_ble_eq_true rfl) ?_
      obtain ⟨x6, hx6, h⟩ := bw_mlE h
      refine rw_ti hx6 ?_
      refine rw_istore_n dX2_tallOf_56 rfl (by decide) ?_
      refine rw_inc dX2_tallOf_57 rfl (by decide) ?_
      refine rw_goto (tgt := 33) dX2_tallOf_60 (by decide) ?_
      exact rw_sub (rw_lc rfl (rw_lc rfl (rw_lc rfl (rw_lc rfl (rw_lc rfl rw_lz))))) (ih x6 (v4 + 1) h)
set_option maxRecDepth 20000 in
set_option maxHeartbeats 1000000 in
theorem th_X2_tallOf_J29 {w : WE} {M : Mem} {v1 : Int32} {v2 : Int32} {s0 : Int32} {out : Int32} (h : f_X2_tallOf_J29 M v1 v2 s0 = some out) : RW w 2 0 0 0 0 cX2_tallOf RX2 5 (some .int) (bw_Z w (bw_pi (out) M)) 29 [(0, .ref (bw_ad w 1)), (1, .int v1), (2, .int v2)] [.int s0] M := by
  unfold f_X2_tallOf_J29 at h
  refine rw_istore_n dX2_tallOf_29 rfl (by decide) ?_
  refine rw_iconst (v := 0) dX2_tallOf_30 (by decide) ?_
  refine rw_istore dX2_tallOf_31 (by decide) ?_
  exact rw_sub (rw_lc rfl (rw_lc rfl (rw_lc rfl (rw_lc rfl (rw_lc rfl rw_lz))))) (th_X2_tallOf_L33 bw_fu v2 (0 : Int32) h)
set_option maxRecDepth 20000 in
set_option maxHeartbeats 1000000 in
theorem ct_X2_tallOf {w : WE} {M : Mem} {v1 : Int32} {out : Int32} (h : f_X2_tallOf M v1 = some out) : Ct w 2 yX2_tallOf cX2_tallOf 5 (some .int) [.ref (bw_ad w 1), .int v1] M (bw_pi (out) M) := by
  refine Ct.of (own := RX2) rfl (by decide) (by intro v hv; simp only [List.mem_cons, List.not_mem_nil, or_false] at hv; rcases hv with rfl | rfl <;> first | rfl | exact bw_cat_rf _) (Nat.le_of_ble_eq_true rfl) ?_
  unfold f_X2_tallOf at h
  show RW w 2 0 0 0 0 cX2_tallOf RX2 5 (some .int) (bw_Z w (bw_pi (out) M)) 0 [(0, .ref (bw_ad w 1)), (1, .int v1)] [] M
  refine rw_iconst (v := 0) dX2_tallOf_0 (by decide) ?_
  refine rw_istore_n dX2_tallOf_1 rfl (by decide) ?_
  refine rw_iload_n dX2_tallOf_2 rfl rfl ?_
  refine rw_iconst (v := 0) dX2_tallOf_3 (by decide) ?_
  refine rw_aload_n dX2_tallOf_4 rfl rfl ?_
  refine rw_get dX2_tallOf_5 fl_RX2_99 (sh_plan w) (bw_kl (by decide)) rfl ?_
  refine rw_iconst (v := 1) dX2_tallOf_8 (by decide) ?_
  refine rw_isub dX2_tallOf_9 ?_
  refine rw_callN3 dX2_tallOf_10 nx_RX2_95 ms_X9_isWithin (ct_X9_isWithin rfl) (Nat.le_of_ble_eq_true rfl) (Nat.le_of_ble_eq_true rfl) (bw_kkz (fun z1 => ?_))
  refine rw_if_eq (tgt := 25) dX2_tallOf_13 (by decide) (fun c2 => ?_) (fun c2 => ?_)
  · have h := bw_it c2 h
    refine rw_aload_n dX2_tallOf_25 rfl rfl ?_
    refine rw_get dX2_tallOf_26 fl_RX2_46 (sh_plan w) (bw_kl (by decide)) rfl ?_
    exact rw_sub (rw_lc rfl (rw_lc rfl (rw_lc rfl rw_lz))) (th_X2_tallOf_J29 h)
  · have h := bw_if c2 h
    refine rw_aload_n dX2_tallOf_16 rfl rfl ?_
    refine rw_get dX2_tallOf_17 fl_RX2_34 (sh_plan w) (bw_kl (by decide)) rfl ?_
    refine rw_iload_n dX2_tallOf_20 rfl rfl ?_
    obtain ⟨g7, h⟩ := bw_gd h
    refine rw_iald dX2_tallOf_21 (sh_p_first w) (bw_kl (by decide)) (bw_in g7) ?_
    refine rw_goto (tgt := 29) dX2_tallOf_22 (by decide) ?_
    exact rw_sub (rw_lc rfl (rw_lc rfl (rw_lc rfl rw_lz))) (th_X2_tallOf_J29 h)
set_option maxRecDepth 20000 in
set_option maxHeartbeats 1000000 in
theorem ct_X2_filledBy {w : WE} {M : Mem} {v1 : Int32} {v2 : Int32} {out : Int32} (h : f_X2_filledBy M v1 v2 = out) : Ct w 0 yX2_filledBy cX2_filledBy 5 (some .int) [.ref (bw_ad w 1), .int v1, .int v2] M (bw_pi (out) M) := by
  refine Ct.of (own := RX2) rfl (by decide) (by intro v hv; simp only [List.mem_cons, List.not_mem_nil, or_false] at hv; rcases hv with rfl | rfl | rfl <;> first | rfl | exact bw_cat_rf _) (Nat.le_of_ble_eq_true rfl) ?_
  unfold f_X2_filledBy at h
  show RW w 0 0 0 0 0 cX2_filledBy RX2 5 (some .int) (bw_Z w (bw_pi (out) M)) 0 [(0, .ref (bw_ad w 1)), (1, .int v1), (2, .int v2)] [] M
  refine rw_iload_n dX2_filledBy_0 rfl rfl ?_
  refine rw_sipush (v := 1000) dX2_filledBy_1 (by decide) ?_
  refine rw_idiv dX2_filledBy_4 (by decide) ?_
  refine rw_istore_n dX2_filledBy_5 rfl (by decide) ?_
  refine rw_iload_n dX2_filledBy_6 rfl rfl ?_
  refine rw_sipush (v := 1000) dX2_filledBy_7 (by decide) ?_
  refine rw_irem dX2_filledBy_10 (by decide) ?_
  refine rw_istore dX2_filledBy_11 (by decide) ?_
  refine rw_iload_n dX2_filledBy_13 rfl rfl ?_
  refine rw_if_le (tgt := 32) dX2_filledBy_14 (by decide) (fun c1 => ?_) (fun c1 => ?_)
  · have h := bw_it c1 h
    refine rw_iload_n dX2_filledBy_32 rfl rfl ?_
    refine rw_iconst (v := 1) dX2_filledBy_33 (by decide) ?_
    refine rw_iadd dX2_filledBy_34 ?_
    refine rw_sipush (v := 1000) dX2_filledBy_35 (by decide) ?_
    refine rw_imul dX2_filledBy_38 ?_
    refine rw_iload_n dX2_filledBy_39 rfl rfl ?_
    refine rw_iadd dX2_filledBy_40 ?_
    subst h
    exact rw_iret dX2_filledBy_41 ⟨rfl, rfl⟩
  · have h := bw_if c1 h
    refine rw_iload dX2_filledBy_17 rfl ?_
    refine rw_iload_n dX2_filledBy_19 rfl rfl ?_
    refine rw_iadd dX2_filledBy_20 ?_
    refine rw_aload_n dX2_filledBy_21 rfl rfl ?_
    refine rw_get dX2_filledBy_22 fl_RX2_65 (sh_plan w) (bw_kl (by decide)) rfl ?_
    refine rw_icmp_gt (tgt := 32) dX2_filledBy_25 (by decide) (fun c2 => ?_) (fun c2 => ?_)
    · have h := bw_it c2 h
      refine rw_iload_n dX2_filledBy_32 rfl rfl ?_
      refine rw_iconst (v := 1) dX2_filledBy_33 (by decide) ?_
      refine rw_iadd dX2_filledBy_34 ?_
      refine rw_sipush (v := 1000) dX2_filledBy_35 (by decide) ?_
      refine rw_imul dX2_filledBy_38 ?_
      refine rw_iload_n dX2_filledBy_39 rfl rfl ?_
      refine rw_iadd dX2_filledBy_40 ?_
      subst h
      exact rw_iret dX2_filledBy_41 ⟨rfl, rfl⟩
    · have h := bw_if c2 h
      refine rw_iload_n dX2_filledBy_28 rfl rfl ?_
      refine rw_iload_n dX2_filledBy_29 rfl rfl ?_
      refine rw_iadd dX2_filledBy_30 ?_
      subst h
      exact rw_iret dX2_filledBy_31 ⟨rfl, rfl⟩
set_option maxRecDepth 20000 in
set_option maxHeartbeats 1000000 in
theorem th_X2_fillFrom_L7 {w : WE} {v1 : Int32} {out : Mem} : ∀ (n : Nat) (v2 : Int32) (v3 : Int32) (v4 : Int32) (M : Mem), f_X2_fillFrom_L7 v1 n v2 v3 v4 M = some out → RW w 2 0 0 0 0 cX2_fillFrom RX2 7 none (bw_Z w (bw_pv out)) 7 [(0, .ref (bw_ad w 1)), (1, .int v1), (2, .int v2), (3, .int v3), (4, .int v4)] [] M := by
  intro n
  induction n with
  | zero => intro v2 v3 v4 M h; cases h
  | succ n ih =>
    intro v2 v3 v4 M h
    rw [f_X2_fillFrom_L7] at h
    refine rw_iload dX2_fillFrom_7 rfl ?_
    refine rw_aload_n dX2_fillFrom_9 rfl rfl ?_
    refine rw_get dX2_fillFrom_10 fl_RX2_46 (sh_plan w) (bw_kl (by decide)) rfl ?_
    refine rw_icmp_ge (tgt := 144) dX2_fillFrom_13 (by decide) (fun c1 => ?_) (fun c1 => ?_)
    · have h := bw_it c1 h
      have h := Option.some.inj h
      subst h
      exact rw_vret dX2_fillFrom_144 ⟨rfl, rfl⟩
    · have h := bw_if c1 h
      refine rw_iload_n dX2_fillFrom_16 rfl rfl ?_
      refine rw_aload_n dX2_fillFrom_17 rfl rfl ?_
      refine rw_get dX2_fillFrom_18 fl_RX2_15 (sh_plan w) (bw_kl (by decide)) rfl ?_
      refine rw_iload dX2_fillFrom_21 rfl ?_
      obtain ⟨g2, h⟩ := bw_gd h
      refine rw_iald dX2_fillFrom_23 (sh_p_thick w) (bw_kl (by decide)) (bw_in g2) ?_
      refine rw_iadd dX2_fillFrom_24 ?_
      refine rw_istore_n dX2_fillFrom_25 rfl (by decide) ?_
      refine rw_iload_n dX2_fillFrom_26 rfl rfl ?_
      refine rw_aload_n dX2_fillFrom_27 rfl rfl ?_
      refine rw_get dX2_fillFrom_28 fl_RX2_11 (sh_plan w) (bw_kl (by decide)) rfl ?_
      refine rw_iload dX2_fillFrom_31 rfl ?_
      refine rw_iald dX2_fillFrom_33 (sh_p_high w) (bw_kl (by decide)) (bw_in g2) ?_
      refine rw_mmax dX2_fillFrom_34 ln_RX2_111 mm_max_s mm_i mm_max_c (Nat.le_of_ble_eq_true rfl) (Nat.le_of_ble_eq_true rfl) ?_
      obtain ⟨x3, hx3, h⟩ := bw_mlE h
      refine rw_ti hx3 ?_
      refine rw_istore_n dX2_fillFrom_37 rfl (by decide) ?_
      refine rw_iload_n dX2_fillFrom_38 rfl rfl ?_
      refine rw_aload_n dX2_fillFrom_39 rfl rfl ?_
      refine rw_get dX2_fillFrom_40 fl_RX2_57 (sh_plan w) (bw_kl (by decide)) rfl ?_
      refine rw_icmp_le (tgt := 47) dX2_fillFrom_43 (by decide) (fun c4 => ?_) (fun c4 => ?_)
      · have h := bw_it c4 h
        refine rw_aload_n dX2_fillFrom_47 rfl rfl ?_
        refine rw_iload_n dX2_fillFrom_48 rfl rfl ?_
        obtain ⟨q5, hq5, h⟩ := bw_bd h
        refine rw_callV1 dX2_fillFrom_49 ln_RX2_117 mv_X2_setFor (sh_plan w) (bw_kl (by decide)) (ct_X2_setFor hq5) (Nat.le_of_ble_eq_true rfl) (Nat.le_of_ble_eq_true rfl) (bw_kki ?_)
        refine rw_istore dX2_fillFrom_52 (by decide) ?_
        refine rw_aload_n dX2_fillFrom_54 rfl rfl ?_
        refine rw_iload dX2_fillFrom_55 rfl ?_
        obtain ⟨q6, hq6, h⟩ := bw_bd h
        refine rw_callV1 dX2_fillFrom_57 ln_RX2_121 mv_X2_endsLine (sh_plan w) (bw_kl (by decide)) (ct_X2_endsLine hq6) (Nat.le_of_ble_eq_true rfl) (Nat.le_of_ble_eq_true rfl) (bw_kkz (fun z7 => ?_))
        refine rw_if_eq (tgt := 138) dX2_fillFrom_60 (by decide) (fun c8 => ?_) (fun c8 => ?_)
        · have h := bw_it c8 h
          refine rw_inc dX2_fillFrom_138 rfl (by decide) ?_
          refine rw_goto (tgt := 7) dX2_fillFrom_141 (by decide) ?_
          exact rw_sub (rw_lc rfl (rw_lc rfl (rw_lc rfl (rw_lc rfl (rw_lc rfl rw_lz))))) (ih (v2 + (M 3 v4.toNatClampNeg)) x3 (v4 + 1) M h)
        · have h := bw_if c8 h
          refine rw_iload dX2_fillFrom_63 rfl ?_
          refine rw_if_le (tgt := 138) dX2_fillFrom_65 (by decide) (fun c9 => ?_) (fun c9 => ?_)
          · have h := bw_it c9 h
            refine rw_inc dX2_fillFrom_138 rfl (by decide) ?_
            refine rw_goto (tgt := 7) dX2_fillFrom_141 (by decide) ?_
            exact rw_sub (rw_lc rfl (rw_lc rfl (rw_lc rfl (rw_lc rfl (rw_lc rfl rw_lz))))) (ih (v2 + (M 3 v4.toNatClampNeg)) x3 (v4 + 1) M h)
          · have h := bw_if c9 h
            refine rw_iload dX2_fillFrom_68 rfl ?_
            refine rw_aload_n dX2_fillFrom_70 rfl rfl ?_
            refine rw_get dX2_fillFrom_71 fl_RX2_61 (sh_plan w) (bw_kl (by decide)) rfl ?_
            refine rw_iadd dX2_fillFrom_74 ?_
            refine rw_aload_n dX2_fillFrom_75 rfl rfl ?_
            refine rw_get dX2_fillFrom_76 fl_RX2_65 (sh_plan w) (bw_kl (by decide)) rfl ?_
            refine rw_icmp_gt (tgt := 138) dX2_fillFrom_79 (by decide) (fun c10 => ?_) (fun c10 => ?_)
            · have h := bw_it c10 h
              refine rw_inc dX2_fillFrom_138 rfl (by decide) ?_
              refine rw_goto (tgt := 7) dX2_fillFrom_141 (by decide) ?_
              exact rw_sub (rw_lc rfl (rw_lc rfl (rw_lc rfl (rw_lc rfl (rw_lc rfl rw_lz))))) (ih (v2 + (M 3 v4.toNatClampNeg)) x3 (v4 + 1) M h)
            · have h := bw_if c10 h
              refine rw_aload_n dX2_fillFrom_82 rfl rfl ?_
              refine rw_aload_n dX2_fillFrom_83 rfl rfl ?_
              refine rw_get dX2_fillFrom_84 fl_RX2_37 (sh_plan w) (bw_kl (by decide)) rfl ?_
              refine rw_iload_n dX2_fillFrom_87 rfl rfl ?_
              obtain ⟨g11, h⟩ := bw_gd h
              refine rw_iald dX2_fillFrom_88 (sh_p_filled w) (bw_kl (by decide)) (bw_in g11) ?_
              refine rw_iload dX2_fillFrom_89 rfl ?_
              refine rw_aload_n dX2_fillFrom_91 rfl rfl ?_
              refine rw_get dX2_fillFrom_92 fl_RX2_61 (sh_plan w) (bw_kl (by decide)) rfl ?_
              refine rw_iadd dX2_fillFrom_95 ?_
              refine rw_callV2 dX2_fillFrom_96 ln_RX2_143 mv_X2_filledBy (sh_plan w) (bw_kl (by decide)) (ct_X2_filledBy rfl) (Nat.le_of_ble_eq_true rfl) (Nat.le_of_ble_eq_true rfl) (bw_kki ?_)
              obtain ⟨x12, hx12, h⟩ := bw_mlE h
              refine rw_ti hx12 ?_
              refine rw_istore dX2_fillFrom_99 (by decide) ?_
              refine rw_aload_n dX2_fillFrom_101 rfl rfl ?_
              refine rw_get dX2_fillFrom_102 fl_RX2_37 (sh_plan w) (bw_kl (by decide)) rfl ?_
              refine rw_iload dX2_fillFrom_105 rfl ?_
              refine rw_iconst (v := 1) dX2_fillFrom_107 (by decide) ?_
              refine rw_iadd dX2_fillFrom_108 ?_
              obtain ⟨g13, h⟩ := bw_gd h
              refine rw_iald dX2_fillFrom_109 (sh_p_filled w) (bw_kl (by decide)) (bw_in g13) ?_
              refine rw_if_lt (tgt := 127) dX2_fillFrom_110 (by decide) (fun c14 => ?_) (fun c14 => ?_)
              · have h := bw_it c14 h
                refine rw_aload_n dX2_fillFrom_127 rfl rfl ?_
                refine rw_get dX2_fillFrom_128 fl_RX2_37 (sh_plan w) (bw_kl (by decide)) rfl ?_
                refine rw_iload dX2_fillFrom_131 rfl ?_
                refine rw_iconst (v := 1) dX2_fillFrom_133 (by decide) ?_
                refine rw_iadd dX2_fillFrom_134 ?_
                refine rw_iload dX2_fillFrom_135 rfl ?_
                refine rw_iast dX2_fillFrom_137 (sh_p_filled w) (bw_kl (by decide)) (bw_in g13) ?_
                obtain ⟨M15, hM15, h⟩ := bw_mlE h
                refine rw_m hM15.symm ?_
                refine rw_inc dX2_fillFrom_138 rfl (by decide) ?_
                refine rw_goto (tgt := 7) dX2_fillFrom_141 (by decide) ?_
                exact rw_sub (rw_lc rfl (rw_lc rfl (rw_lc rfl (rw_lc rfl (rw_lc rfl rw_lz))))) (ih (v2 + (M 3 v4.toNatClampNeg)) x3 (v4 + 1) M15 h)
              · have h := bw_if c14 h
                refine rw_iload dX2_fillFrom_113 rfl ?_
                refine rw_aload_n dX2_fillFrom_115 rfl rfl ?_
                refine rw_get dX2_fillFrom_116 fl_RX2_37 (sh_plan w) (bw_kl (by decide)) rfl ?_
                refine rw_iload dX2_fillFrom_119 rfl ?_
                refine rw_iconst (v := 1) dX2_fillFrom_121 (by decide) ?_
                refine rw_iadd dX2_fillFrom_122 ?_
                refine rw_iald dX2_fillFrom_123 (sh_p_filled w) (bw_kl (by decide)) (bw_in g13) ?_
                refine rw_icmp_ge (tgt := 138) dX2_fillFrom_124 (by decide) (fun c16 => ?_) (fun c16 => ?_)
                · have h := bw_it c16 h
                  refine rw_inc dX2_fillFrom_138 rfl (by decide) ?_
                  refine rw_goto (tgt := 7) dX2_fillFrom_141 (by decide) ?_
                  exact rw_sub (rw_lc rfl (rw_lc rfl (rw_lc rfl (rw_lc rfl (rw_lc rfl rw_lz))))) (ih (v2 + (M 3 v4.toNatClampNeg)) x3 (v4 + 1) M h)
                · have h := bw_if c16 h
                  refine rw_aload_n dX2_fillFrom_127 rfl rfl ?_
                  refine rw_get dX2_fillFrom_128 fl_RX2_37 (sh_plan w) (bw_kl (by decide)) rfl ?_
                  refine rw_iload dX2_fillFrom_131 rfl ?_
                  refine rw_iconst (v := 1) dX2_fillFrom_133 (by decide) ?_
                  refine rw_iadd dX2_fillFrom_134 ?_
                  refine rw_iload dX2_fillFrom_135 rfl ?_
                  refine rw_iast dX2_fillFrom_137 (sh_p_filled w) (bw_kl (by decide)) (bw_in g13) ?_
                  obtain ⟨M17, hM17, h⟩ := bw_mlE h
                  refine rw_m hM17.symm ?_
                  refine rw_inc dX2_fillFrom_138 rfl (by decide) ?_
                  refine rw_goto (tgt := 7) dX2_fillFrom_141 (by decide) ?_
                  exact rw_sub (rw_lc rfl (rw_lc rfl (rw_lc rfl (rw_lc rfl (rw_lc rfl rw_lz))))) (ih (v2 + (M 3 v4.toNatClampNeg)) x3 (v4 + 1) M17 h)
      · have h := bw_if c4 h
        have h := Option.some.inj h
        subst h
        exact rw_vret dX2_fillFrom_46 ⟨rfl, rfl⟩
set_option maxRecDepth 20000 in
set_option maxHeartbeats 1000000 in
theorem ct_X2_fillFrom {w : WE} {M : Mem} {v1 : Int32} {out : Mem} (h : f_X2_fillFrom M v1 = some out) : Ct w 2 yX2_fillFrom cX2_fillFrom 7 none [.ref (bw_ad w 1), .int v1] M (bw_pv out) := by
  refine Ct.of (own := RX2) rfl (by decide) (by intro v hv; simp only [List.mem_cons, List.not_mem_nil, or_false] at hv; rcases hv with rfl | rfl <;> first | rfl | exact bw_cat_rf _) (Nat.le_of_ble_eq_true rfl) ?_
  unfold f_X2_fillFrom at h
  show RW w 2 0 0 0 0 cX2_fillFrom RX2 7 none (bw_Z w (bw_pv out)) 0 [(0, .ref (bw_ad w 1)), (1, .int v1)] [] M
  refine rw_iconst (v := 0) dX2_fillFrom_0 (by decide) ?_
  refine rw_istore_n dX2_fillFrom_1 rfl (by decide) ?_
  refine rw_iconst (v := 0) dX2_fillFrom_2 (by decide) ?_
  refine rw_istore_n dX2_fillFrom_3 rfl (by decide) ?_
  refine rw_iload_n dX2_fillFrom_4 rfl rfl ?_
  refine rw_istore dX2_fillFrom_5 (by decide) ?_
  exact rw_sub (rw_lc rfl (rw_lc rfl (rw_lc rfl (rw_lc rfl (rw_lc rfl rw_lz))))) (th_X2_fillFrom_L7 bw_fu (0 : Int32) (0 : Int32) v1 M h)
set_option maxRecDepth 20000 in
set_option maxHeartbeats 1000000 in
theorem th_X2_leastFilled_L17 {w : WE} {out : Int32 × Mem} : ∀ (n : Nat) (v1 : Int32) (M : Mem), f_X2_leastFilled_L17 n v1 M = some out → RW w 3 0 0 0 0 cX2_leastFilled RX2 2 (some .int) (bw_Z w (bw_pi (out.1) out.2)) 17 [(0, .ref (bw_ad w 1)), (1, .int v1)] [] M := by
  intro n
  induction n with
  | zero => intro v1 M h; cases h
  | succ n ih =>
    intro v1 M h
    rw [f_X2_leastFilled_L17] at h
    refine rw_iload_n dX2_leastFilled_17 rfl rfl ?_
    refine rw_aload_n dX2_leastFilled_18 rfl rfl ?_
    refine rw_get dX2_leastFilled_19 fl_RX2_46 (sh_plan w) (bw_kl (by decide)) rfl ?_
    refine rw_icmp_ge (tgt := 45) dX2_leastFilled_22 (by decide) (fun c3 => ?_) (fun c3 => ?_)
    · have h := bw_it c3 h
      refine rw_aload_n dX2_leastFilled_45 rfl rfl ?_
      refine rw_get dX2_leastFilled_46 fl_RX2_37 (sh_plan w) (bw_kl (by decide)) rfl ?_
      refine rw_aload_n dX2_leastFilled_49 rfl rfl ?_
      refine rw_get dX2_leastFilled_50 fl_RX2_46 (sh_plan w) (bw_kl (by decide)) rfl ?_
      obtain ⟨g4, h⟩ := bw_gd h
      refine rw_iald dX2_leastFilled_53 (sh_p_filled w) (bw_kl (by decide)) (bw_in g4) ?_
      have h := Option.some.inj h
      subst h
      exact rw_iret dX2_leastFilled_54 ⟨rfl, rfl⟩
    · have h := bw_if c3 h
      refine rw_aload_n dX2_leastFilled_25 rfl rfl ?_
      refine rw_get dX2_leastFilled_26 fl_RX2_37 (sh_plan w) (bw_kl (by decide)) rfl ?_
      refine rw_iload_n dX2_leastFilled_29 rfl rfl ?_
      obtain ⟨g5, h⟩ := bw_gd h
      refine rw_iald dX2_leastFilled_30 (sh_p_filled w) (bw_kl (by decide)) (bw_in g5) ?_
      refine rw_if_lt (tgt := 39) dX2_leastFilled_31 (by decide) (fun c6 => ?_) (fun c6 => ?_)
      · have h := bw_it c6 h
        refine rw_inc dX2_leastFilled_39 rfl (by decide) ?_
        refine rw_goto (tgt := 17) dX2_leastFilled_42 (by decide) ?_
        exact rw_sub (rw_lc rfl (rw_lc rfl rw_lz)) (ih (v1 + 1) M h)
      · have h := bw_if c6 h
        refine rw_aload_n dX2_leastFilled_34 rfl rfl ?_
        refine rw_iload_n dX2_leastFilled_35 rfl rfl ?_
        obtain ⟨q7, hq7, h⟩ := bw_bd h
        refine rw_callV1 dX2_leastFilled_36 ln_RX2_140 mv_X2_fillFrom (sh_plan w) (bw_kl (by decide)) (ct_X2_fillFrom hq7) (Nat.le_of_ble_eq_true rfl) (Nat.le_of_ble_eq_true rfl) (bw_kkv ?_)
        refine rw_inc dX2_leastFilled_39 rfl (by decide) ?_
        refine rw_goto (tgt := 17) dX2_leastFilled_42 (by decide) ?_
        exact rw_sub (rw_lc rfl (rw_lc rfl rw_lz)) (ih (v1 + 1) q7 h)
set_option maxRecDepth 20000 in
set_option maxHeartbeats 1000000 in
theorem ct_X2_leastFilled {w : WE} {M : Mem} {out : Int32 × Mem} (h : f_X2_leastFilled M = some out) : Ct w 3 yX2_leastFilled cX2_leastFilled 2 (some .int) [.ref (bw_ad w 1)] M (bw_pi (out.1) out.2) := by
  refine Ct.of (own := RX2) rfl (by decide) (by intro v hv; rw [List.mem_singleton.mp hv]; first | rfl | exact bw_cat_rf _) (Nat.le_of_ble_eq_true rfl) ?_
  unfold f_X2_leastFilled at h
  show RW w 3 0 0 0 0 cX2_leastFilled RX2 2 (some .int) (bw_Z w (bw_pi (out.1) out.2)) 0 [(0, .ref (bw_ad w 1))] [] M
  refine rw_aload_n dX2_leastFilled_0 rfl rfl ?_
  refine rw_get dX2_leastFilled_1 fl_RX2_37 (sh_plan w) (bw_kl (by decide)) rfl ?_
  refine rw_iconst (v := -1) dX2_leastFilled_4 (by decide) ?_
  refine rw_fill dX2_leastFilled_5 lj_RX2_89 (sh_p_filled w) (by decide) (by decide) (Nat.le_of_ble_eq_true rfl) (Nat.le_of_ble_eq_true rfl) ?_
  obtain ⟨M1, hM1, h⟩ := bw_mlE h
  refine rw_m hM1.symm ?_
  refine rw_aload_n dX2_leastFilled_8 rfl rfl ?_
  refine rw_get dX2_leastFilled_9 fl_RX2_37 (sh_plan w) (bw_kl (by decide)) rfl ?_
  refine rw_iconst (v := 0) dX2_leastFilled_12 (by decide) ?_
  refine rw_iconst (v := 0) dX2_leastFilled_13 (by decide) ?_
  refine rw_iast dX2_leastFilled_14 (sh_p_filled w) (bw_kl (by decide)) (bw_in (show bw_ib (0 : Int32) 25 = true by decide)) ?_
  obtain ⟨M2, hM2, h⟩ := bw_mlE h
  refine rw_m hM2.symm ?_
  refine rw_iconst (v := 0) dX2_leastFilled_15 (by decide) ?_
  refine rw_istore_n dX2_leastFilled_16 rfl (by decide) ?_
  exact rw_sub (rw_lc rfl (rw_lc rfl rw_lz)) (th_X2_leastFilled_L17 bw_fu (0 : Int32) M2 h)
set_option maxRecDepth 20000 in
set_option maxHeartbeats 1000000 in
theorem ct_X7_sortAt {w : WE} {M : Mem} {v1 : Int32} {out : Int32} (h : f_X7_sortAt M v1 = some out) : Ct w 1 yX7_sortAt cX7_sortAt 3 (some .int) [.ref (bw_ad w 16), .int v1] M (bw_pi (out) M) := by
  refine Ct.of (own := RX7) rfl (by decide) (by intro v hv; simp only [List.mem_cons, List.not_mem_nil, or_false] at hv; rcases hv with rfl | rfl <;> first | rfl | exact bw_cat_rf _) (Nat.le_of_ble_eq_true rfl) ?_
  unfold f_X7_sortAt at h
  show RW w 1 0 0 0 0 cX7_sortAt RX7 3 (some .int) (bw_Z w (bw_pi (out) M)) 0 [(0, .ref (bw_ad w 16)), (1, .int v1)] [] M
  refine rw_iload_n dX7_sortAt_0 rfl rfl ?_
  refine rw_iconst (v := 0) dX7_sortAt_1 (by decide) ?_
  refine rw_aload_n dX7_sortAt_2 rfl rfl ?_
  refine rw_get dX7_sortAt_3 fl_RX7_15 (sh_tape w) (bw_kl (by decide)) rfl ?_
  refine rw_iconst (v := 1) dX7_sortAt_6 (by decide) ?_
  refine rw_isub dX7_sortAt_7 ?_
  refine rw_callN3 dX7_sortAt_8 nx_RX7_35 ms_X9_isWithin (ct_X9_isWithin rfl) (Nat.le_of_ble_eq_true rfl) (Nat.le_of_ble_eq_true rfl) (bw_kkz (fun z1 => ?_))
  refine rw_if_ne (tgt := 16) dX7_sortAt_11 (by decide) (fun c2 => ?_) (fun c2 => ?_)
  · have h := bw_if c2 h
    refine rw_aload_n dX7_sortAt_16 rfl rfl ?_
    refine rw_get dX7_sortAt_17 fl_RX7_9 (sh_tape w) (bw_kl (by decide)) rfl ?_
    refine rw_iload_n dX7_sortAt_20 rfl rfl ?_
    obtain ⟨g3, h⟩ := bw_gd h
    refine rw_iald dX7_sortAt_21 (sh_t_bytes w) (bw_kl (by decide)) (bw_in g3) ?_
    refine rw_istore_n dX7_sortAt_22 rfl (by decide) ?_
    refine rw_iload_n dX7_sortAt_23 rfl rfl ?_
    refine rw_bipush (v := 97) dX7_sortAt_24 (by decide) ?_
    refine rw_icmp_lt (tgt := 37) dX7_sortAt_26 (by decide) (fun c4 => ?_) (fun c4 => ?_)
    · have h := bw_it c4 h
      refine rw_iload_n dX7_sortAt_37 rfl rfl ?_
      refine rw_bipush (v := 48) dX7_sortAt_38 (by decide) ?_
      have key : RW w 1 0 0 0 0 cX7_sortAt RX7 3 (some .int) (bw_Z w (bw_pi (out) M)) 54 [] [.int (if (M 17 v1.toNatClampNeg) < (48 : Int32) then (3 : Int32) else (if (57 : Int32) < (M 17 v1.toNatClampNeg) then (3 : Int32) else (2 : Int32)))] M := by
        have h := Option.some.inj h
        subst h
        exact rw_iret dX7_sortAt_54 ⟨rfl, rfl⟩
      refine rw_icmp_lt (tgt := 53) dX7_sortAt_40 (by decide) (fun c5 => ?_) (fun c5 => ?_)
      · refine rw_iconst (v := 3) dX7_sortAt_53 (by decide) ?_
        simp only [if_pos c5] at key
        exact rw_sub rw_lz key
      · refine rw_iload_n dX7_sortAt_43 rfl rfl ?_
        refine rw_bipush (v := 57) dX7_sortAt_44 (by decide) ?_
        refine rw_icmp_gt (tgt := 53) dX7_sortAt_46 (by decide) (fun c6 => ?_) (fun c6 => ?_)
        · refine rw_iconst (v := 3) dX7_sortAt_53 (by decide) ?_
          simp only [if_neg c5, if_pos c6] at key
          exact rw_sub rw_lz key
        · refine rw_iconst (v := 2) dX7_sortAt_49 (by decide) ?_
          refine rw_goto (tgt := 54) dX7_sortAt_50 (by decide) ?_
          simp only [if_neg c5, if_neg c6] at key
          exact rw_sub rw_lz key
    · have h := bw_if c4 h
      refine rw_iload_n dX7_sortAt_29 rfl rfl ?_
      refine rw_bipush (v := 122) dX7_sortAt_30 (by decide) ?_
      refine rw_icmp_gt (tgt := 37) dX7_sortAt_32 (by decide) (fun c7 => ?_) (fun c7 => ?_)
      · have h := bw_it c7 h
        refine rw_iload_n dX7_sortAt_37 rfl rfl ?_
        refine rw_bipush (v := 48) dX7_sortAt_38 (by decide) ?_
        have key : RW w 1 0 0 0 0 cX7_sortAt RX7 3 (some .int) (bw_Z w (bw_pi (out) M)) 54 [] [.int (if (M 17 v1.toNatClampNeg) < (48 : Int32) then (3 : Int32) else (if (57 : Int32) < (M 17 v1.toNatClampNeg) then (3 : Int32) else (2 : Int32)))] M := by
          have h := Option.some.inj h
          subst h
          exact rw_iret dX7_sortAt_54 ⟨rfl, rfl⟩
        refine rw_icmp_lt (tgt := 53) dX7_sortAt_40 (by decide) (fun c8 => ?_) (fun c8 => ?_)
        · refine rw_iconst (v := 3) dX7_sortAt_53 (by decide) ?_
          simp only [if_pos c8] at key
          exact rw_sub rw_lz key
        · refine rw_iload_n dX7_sortAt_43 rfl rfl ?_
          refine rw_bipush (v := 57) dX7_sortAt_44 (by decide) ?_
          refine rw_icmp_gt (tgt := 53) dX7_sortAt_46 (by decide) (fun c9 => ?_) (fun c9 => ?_)
          · refine rw_iconst (v := 3) dX7_sortAt_53 (by decide) ?_
            simp only [if_neg c8, if_pos c9] at key
            exact rw_sub rw_lz key
          · refine rw_iconst (v := 2) dX7_sortAt_49 (by decide) ?_
            refine rw_goto (tgt := 54) dX7_sortAt_50 (by decide) ?_
            simp only [if_neg c8, if_neg c9] at key
            exact rw_sub rw_lz key
      · have h := bw_if c7 h
        refine rw_iconst (v := 1) dX7_sortAt_35 (by decide) ?_
        have h := Option.some.inj h
        subst h
        exact rw_iret dX7_sortAt_36 ⟨rfl, rfl⟩
  · have h := bw_it c2 h
    refine rw_iconst (v := 0) dX7_sortAt_14 (by decide) ?_
    have h := Option.some.inj h
    subst h
    exact rw_iret dX7_sortAt_15 ⟨rfl, rfl⟩
set_option maxRecDepth 20000 in
set_option maxHeartbeats 1000000 in
theorem th_X7_advance_L128 {w : WE} {v1 : Int32} {v2 : Int32} {v3 : Int32} {out : Mem} : ∀ (n : Nat) (M : Mem), f_X7_advance_L128 v1 v2 v3 n M = some out → RW w 2 0 0 0 0 cX7_advance RX7 5 none (bw_Z w (bw_pv out)) 128 [(0, .ref (bw_ad w 16)), (1, .int v1), (2, .int v2), (3, .int v3)] [] M := by
  intro n
  induction n with
  | zero => intro M h; cases h
  | succ n ih =>
    intro M h
    rw [f_X7_advance_L128] at h
    refine rw_iload_n dX7_advance_128 rfl rfl ?_
    refine rw_if_eq (tgt := 171) dX7_advance_129 (by decide) (fun c10 => ?_) (fun c10 => ?_)
    · have h := bw_it c10 h
      refine rw_iload_n dX7_advance_171 rfl rfl ?_
      refine rw_if_eq (tgt := 191) dX7_advance_172 (by decide) (fun c11 => ?_) (fun c11 => ?_)
      · have h := bw_it c11 h
        refine rw_iconst (v := 0) dX7_advance_191 (by decide) ?_
        refine rw_istore dX7_advance_192 (by decide) ?_
        refine rw_iload dX7_advance_194 rfl ?_
        refine rw_if_ne (tgt := 220) dX7_advance_196 (by decide) (fun c12 => ?_) (fun c12 => ?_)
        · have h := bw_if c12 h
          refine rw_aload_n dX7_advance_220 rfl rfl ?_
          refine rw_iconst (v := 4) dX7_advance_221 (by decide) ?_
          refine rw_puti dX7_advance_222 fl_RX7_19 fp_7_2 (sh_tape w) (bw_kl (by decide)) (by decide) (fun _ => rfl) (fun _ => Nat.le_of_ble_eq_true rfl) ?_
          obtain ⟨M13, hM13, h⟩ := bw_mlE h
          refine rw_m hM13.symm ?_
          have h := Option.some.inj h
          subst h
          exact rw_vret dX7_advance_225 ⟨rfl, rfl⟩
        · have h := bw_it c12 h
          refine rw_aload_n dX7_advance_199 rfl rfl ?_
          refine rw_get dX7_advance_200 fl_RX7_19 (sh_tape w) (bw_kl (by decide)) rfl ?_
          refine rw_iconst (v := 2) dX7_advance_203 (by decide) ?_
          refine rw_icmp_ne (tgt := 225) dX7_advance_204 (by decide) (fun c14 => ?_) (fun c14 => ?_)
          · have h := bw_if c14 h
            have h := Option.some.inj h
            subst h
            exact rw_vret dX7_advance_225 ⟨rfl, rfl⟩
          · have h := bw_it c14 h
            refine rw_aload_n dX7_advance_207 rfl rfl ?_
            refine rw_get dX7_advance_208 fl_RX7_22 (sh_tape w) (bw_kl (by decide)) rfl ?_
            refine rw_aload_n dX7_advance_211 rfl rfl ?_
            refine rw_get dX7_advance_212 fl_RX7_28 (sh_tape w) (bw_kl (by decide)) rfl ?_
            refine rw_isub dX7_advance_215 ?_
            refine rw_iconst (v := 4) dX7_advance_216 (by decide) ?_
            refine rw_icmp_le (tgt := 225) dX7_advance_217 (by decide) (fun c15 => ?_) (fun c15 => ?_)
            · have h := bw_it c15 h
              have h := Option.some.inj h
              subst h
              exact rw_vret dX7_advance_225 ⟨rfl, rfl⟩
            · have h := bw_if c15 h
              refine rw_aload_n dX7_advance_220 rfl rfl ?_
              refine rw_iconst (v := 4) dX7_advance_221 (by decide) ?_
              refine rw_puti dX7_advance_222 fl_RX7_19 fp_7_2 (sh_tape w) (bw_kl (by decide)) (by decide) (fun _ => rfl) (fun _ => Nat.le_of_ble_eq_true rfl) ?_
              obtain ⟨M16, hM16, h⟩ := bw_mlE h
              refine rw_m hM16.symm ?_
              have h := Option.some.inj h
              subst h
              exact rw_vret dX7_advance_225 ⟨rfl, rfl⟩
      · have h := bw_if c11 h
        refine rw_iload_n dX7_advance_175 rfl rfl ?_
        refine rw_if_eq (tgt := 191) dX7_advance_176 (by decide) (fun c17 => ?_) (fun c17 => ?_)
        · have h := bw_it c17 h
          refine rw_iconst (v := 0) dX7_advance_191 (by decide) ?_
          refine rw_istore dX7_advance_192 (by decide) ?_
          refine rw_iload dX7_advance_194 rfl ?_
          refine rw_if_ne (tgt := 220) dX7_advance_196 (by decide) (fun c18 => ?_) (fun c18 => ?_)
          · have h := bw_if c18 h
            refine rw_aload_n dX7_advance_220 rfl rfl ?_
            refine rw_iconst (v := 4) dX7_advance_221 (by decide) ?_
            refine rw_puti dX7_advance_222 fl_RX7_19 fp_7_2 (sh_tape w) (bw_kl (by decide)) (by decide) (fun _ => rfl) (fun _ => Nat.le_of_ble_eq_true rfl) ?_
            obtain ⟨M19, hM19, h⟩ := bw_mlE h
            refine rw_m hM19.symm ?_
            have h := Option.some.inj h
            subst h
            exact rw_vret dX7_advance_225 ⟨rfl, rfl⟩
          · have h := bw_it c18 h
            refine rw_aload_n dX7_advance_199 rfl rfl ?_
            refine rw_get dX7_advance_200 fl_RX7_19 (sh_tape w) (bw_kl (by decide)) rfl ?_
            refine rw_iconst (v := 2) dX7_advance_203 (by decide) ?_
            refine rw_icmp_ne (tgt := 225) dX7_advance_204 (by decide) (fun c20 => ?_) (fun c20 => ?_)
            · have h := bw_if c20 h
              have h := Option.some.inj h
              subst h
              exact rw_vret dX7_advance_225 ⟨rfl, rfl⟩
            · have h := bw_it c20 h
              refine rw_aload_n dX7_advance_207 rfl rfl ?_
              refine rw_get dX7_advance_208 fl_RX7_22 (sh_tape w) (bw_kl (by decide)) rfl ?_
              refine rw_aload_n dX7_advance_211 rfl rfl ?_
              refine rw_get dX7_advance_212 fl_RX7_28 (sh_tape w) (bw_kl (by decide)) rfl ?_
              refine rw_isub dX7_advance_215 ?_
              refine rw_iconst (v := 4) dX7_advance_216 (by decide) ?_
              refine rw_icmp_le (tgt := 225) dX7_advance_217 (by decide) (fun c21 => ?_) (fun c21 => ?_)
              · have h := bw_it c21 h
                have h := Option.some.inj h
                subst h
                exact rw_vret dX7_advance_225 ⟨rfl, rfl⟩
              · have h := bw_if c21 h
                refine rw_aload_n dX7_advance_220 rfl rfl ?_
                refine rw_iconst (v := 4) dX7_advance_221 (by decide) ?_
                refine rw_puti dX7_advance_222 fl_RX7_19 fp_7_2 (sh_tape w) (bw_kl (by decide)) (by decide) (fun _ => rfl) (fun _ => Nat.le_of_ble_eq_true rfl) ?_
                obtain ⟨M22, hM22, h⟩ := bw_mlE h
                refine rw_m hM22.symm ?_
                have h := Option.some.inj h
                subst h
                exact rw_vret dX7_advance_225 ⟨rfl, rfl⟩
        · have h := bw_if c17 h
          refine rw_aload_n dX7_advance_179 rfl rfl ?_
          refine rw_get dX7_advance_180 fl_RX7_28 (sh_tape w) (bw_kl (by decide)) rfl ?_
          refine rw_iload_n dX7_advance_183 rfl rfl ?_
          refine rw_icmp_ne (tgt := 191) dX7_advance_184 (by decide) (fun c23 => ?_) (fun c23 => ?_)
          · have h := bw_if c23 h
            refine rw_iconst (v := 0) dX7_advance_191 (by decide) ?_
            refine rw_istore dX7_advance_192 (by decide) ?_
            refine rw_iload dX7_advance_194 rfl ?_
            refine rw_if_ne (tgt := 220) dX7_advance_196 (by decide) (fun c24 => ?_) (fun c24 => ?_)
            · have h := bw_if c24 h
              refine rw_aload_n dX7_advance_220 rfl rfl ?_
              refine rw_iconst (v := 4) dX7_advance_221 (by decide) ?_
              refine rw_puti dX7_advance_222 fl_RX7_19 fp_7_2 (sh_tape w) (bw_kl (by decide)) (by decide) (fun _ => rfl) (fun _ => Nat.le_of_ble_eq_true rfl) ?_
              obtain ⟨M25, hM25, h⟩ := bw_mlE h
              refine rw_m hM25.symm ?_
              have h := Option.some.inj h
              subst h
              exact rw_vret dX7_advance_225 ⟨rfl, rfl⟩
            · have h := bw_it c24 h
              refine rw_aload_n dX7_advance_199 rfl rfl ?_
              refine rw_get dX7_advance_200 fl_RX7_19 (sh_tape w) (bw_kl (by decide)) rfl ?_
              refine rw_iconst (v := 2) dX7_advance_203 (by decide) ?_
              refine rw_icmp_ne (tgt := 225) dX7_advance_204 (by decide) (fun c26 => ?_) (fun c26 => ?_)
              · have h := bw_if c26 h
                have h := Option.some.inj h
                subst h
                exact rw_vret dX7_advance_225 ⟨rfl, rfl⟩
              · have h := bw_it c26 h
                refine rw_aload_n dX7_advance_207 rfl rfl ?_
                refine rw_get dX7_advance_208 fl_RX7_22 (sh_tape w) (bw_kl (by decide)) rfl ?_
                refine rw_aload_n dX7_advance_211 rfl rfl ?_
                refine rw_get dX7_advance_212 fl_RX7_28 (sh_tape w) (bw_kl (by decide)) rfl ?_
                refine rw_isub dX7_advance_215 ?_
                refine rw_iconst (v := 4) dX7_advance_216 (by decide) ?_
                refine rw_icmp_le (tgt := 225) dX7_advance_217 (by decide) (fun c27 => ?_) (fun c27 => ?_)
                · have h := bw_it c27 h
                  have h := Option.some.inj h
                  subst h
                  exact rw_vret dX7_advance_225 ⟨rfl, rfl⟩
                · have h := bw_if c27 h
                  refine rw_aload_n dX7_advance_220 rfl rfl ?_
                  refine rw_iconst (v := 4) dX7_advance_221 (by decide) ?_
                  refine rw_puti dX7_advance_222 fl_RX7_19 fp_7_2 (sh_tape w) (bw_kl (by decide)) (by decide) (fun _ => rfl) (fun _ => Nat.le_of_ble_eq_true rfl) ?_
                  obtain ⟨M28, hM28, h⟩ := bw_mlE h
                  refine rw_m hM28.symm ?_
                  have h := Option.some.inj h
                  subst h
                  exact rw_vret dX7_advance_225 ⟨rfl, rfl⟩
          · have h := bw_it c23 h
            refine rw_iconst (v := 1) dX7_advance_187 (by decide) ?_
            refine rw_goto (tgt := 192) dX7_advance_188 (by decide) ?_
            refine rw_istore dX7_advance_192 (by decide) ?_
            refine rw_iload dX7_advance_194 rfl ?_
            refine rw_if_ne (tgt := 220) dX7_advance_196 (by decide) (fun c29 => ?_) (fun c29 => ?_)
            · have h := bw_if c29 h
              refine rw_aload_n dX7_advance_220 rfl rfl ?_
              refine rw_iconst (v := 4) dX7_advance_221 (by decide) ?_
              refine rw_puti dX7_advance_222 fl_RX7_19 fp_7_2 (sh_tape w) (bw_kl (by decide)) (by decide) (fun _ => rfl) (fun _ => Nat.le_of_ble_eq_true rfl) ?_
              obtain ⟨M30, hM30, h⟩ := bw_mlE h
              refine rw_m hM30.symm ?_
              have h := Option.some.inj h
              subst h
              exact rw_vret dX7_advance_225 ⟨rfl, rfl⟩
            · have h := bw_it c29 h
              refine rw_aload_n dX7_advance_199 rfl rfl ?_
              refine rw_get dX7_advance_200 fl_RX7_19 (sh_tape w) (bw_kl (by decide)) rfl ?_
              refine rw_iconst (v := 2) dX7_advance_203 (by decide) ?_
              refine rw_icmp_ne (tgt := 225) dX7_advance_204 (by decide) (fun c31 => ?_) (fun c31 => ?_)
              · have h := bw_if c31 h
                have h := Option.some.inj h
                subst h
                exact rw_vret dX7_advance_225 ⟨rfl, rfl⟩
              · have h := bw_it c31 h
                refine rw_aload_n dX7_advance_207 rfl rfl ?_
                refine rw_get dX7_advance_208 fl_RX7_22 (sh_tape w) (bw_kl (by decide)) rfl ?_
                refine rw_aload_n dX7_advance_211 rfl rfl ?_
                refine rw_get dX7_advance_212 fl_RX7_28 (sh_tape w) (bw_kl (by decide)) rfl ?_
                refine rw_isub dX7_advance_215 ?_
                refine rw_iconst (v := 4) dX7_advance_216 (by decide) ?_
                refine rw_icmp_le (tgt := 225) dX7_advance_217 (by decide) (fun c32 => ?_) (fun c32 => ?_)
                · have h := bw_it c32 h
                  have h := Option.some.inj h
                  subst h
                  exact rw_vret dX7_advance_225 ⟨rfl, rfl⟩
                · have h := bw_if c32 h
                  refine rw_aload_n dX7_advance_220 rfl rfl ?_
                  refine rw_iconst (v := 4) dX7_advance_221 (by decide) ?_
                  refine rw_puti dX7_advance_222 fl_RX7_19 fp_7_2 (sh_tape w) (bw_kl (by decide)) (by decide) (fun _ => rfl) (fun _ => Nat.le_of_ble_eq_true rfl) ?_
                  obtain ⟨M33, hM33, h⟩ := bw_mlE h
                  refine rw_m hM33.symm ?_
                  have h := Option.some.inj h
                  subst h
                  exact rw_vret dX7_advance_225 ⟨rfl, rfl⟩
    · have h := bw_if c10 h
      refine rw_aload_n dX7_advance_132 rfl rfl ?_
      refine rw_get dX7_advance_133 fl_RX7_22 (sh_tape w) (bw_kl (by decide)) rfl ?_
      refine rw_aload_n dX7_advance_136 rfl rfl ?_
      refine rw_get dX7_advance_137 fl_RX7_15 (sh_tape w) (bw_kl (by decide)) rfl ?_
      refine rw_icmp_ge (tgt := 171) dX7_advance_140 (by decide) (fun c34 => ?_) (fun c34 => ?_)
      · have h := bw_it c34 h
        refine rw_iload_n dX7_advance_171 rfl rfl ?_
        refine rw_if_eq (tgt := 191) dX7_advance_172 (by decide) (fun c35 => ?_) (fun c35 => ?_)
        · have h := bw_it c35 h
          refine rw_iconst (v := 0) dX7_advance_191 (by decide) ?_
          refine rw_istore dX7_advance_192 (by decide) ?_
          refine rw_iload dX7_advance_194 rfl ?_
          refine rw_if_ne (tgt := 220) dX7_advance_196 (by decide) (fun c36 => ?_) (fun c36 => ?_)
          · have h := bw_if c36 h
            refine rw_aload_n dX7_advance_220 rfl rfl ?_
            refine rw_iconst (v := 4) dX7_advance_221 (by decide) ?_
            refine rw_puti dX7_advance_222 fl_RX7_19 fp_7_2 (sh_tape w) (bw_kl (by decide)) (by decide) (fun _ => rfl) (fun _ => Nat.le_of_ble_eq_true rfl) ?_
            obtain ⟨M37, hM37, h⟩ := bw_mlE h
            refine rw_m hM37.symm ?_
            have h := Option.some.inj h
            subst h
            exact rw_vret dX7_advance_225 ⟨rfl, rfl⟩
          · have h := bw_it c36 h
            refine rw_aload_n dX7_advance_199 rfl rfl ?_
            refine rw_get dX7_advance_200 fl_RX7_19 (sh_tape w) (bw_kl (by decide)) rfl ?_
            refine rw_iconst (v := 2) dX7_advance_203 (by decide) ?_
            refine rw_icmp_ne (tgt := 225) dX7_advance_204 (by decide) (fun c38 => ?_) (fun c38 => ?_)
            · have h := bw_if c38 h
              have h := Option.some.inj h
              subst h
              exact rw_vret dX7_advance_225 ⟨rfl, rfl⟩
            · have h := bw_it c38 h
              refine rw_aload_n dX7_advance_207 rfl rfl ?_
              refine rw_get dX7_advance_208 fl_RX7_22 (sh_tape w) (bw_kl (by decide)) rfl ?_
              refine rw_aload_n dX7_advance_211 rfl rfl ?_
              refine rw_get dX7_advance_212 fl_RX7_28 (sh_tape w) (bw_kl (by decide)) rfl ?_
              refine rw_isub dX7_advance_215 ?_
              refine rw_iconst (v := 4) dX7_advance_216 (by decide) ?_
              refine rw_icmp_le (tgt := 225) dX7_advance_217 (by decide) (fun c39 => ?_) (fun c39 => ?_)
              · have h := bw_it c39 h
                have h := Option.some.inj h
                subst h
                exact rw_vret dX7_advance_225 ⟨rfl, rfl⟩
              · have h := bw_if c39 h
                refine rw_aload_n dX7_advance_220 rfl rfl ?_
                refine rw_iconst (v := 4) dX7_advance_221 (by decide) ?_
                refine rw_puti dX7_advance_222 fl_RX7_19 fp_7_2 (sh_tape w) (bw_kl (by decide)) (by decide) (fun _ => rfl) (fun _ => Nat.le_of_ble_eq_true rfl) ?_
                obtain ⟨M40, hM40, h⟩ := bw_mlE h
                refine rw_m hM40.symm ?_
                have h := Option.some.inj h
                subst h
                exact rw_vret dX7_advance_225 ⟨rfl, rfl⟩
        · have h := bw_if c35 h
          refine rw_iload_n dX7_advance_175 rfl rfl ?_
          refine rw_if_eq (tgt := 191) dX7_advance_176 (by decide) (fun c41 => ?_) (fun c41 => ?_)
          · have h := bw_it c41 h
            refine rw_iconst (v := 0) dX7_advance_191 (by decide) ?_
            refine rw_istore dX7_advance_192 (by decide) ?_
            refine rw_iload dX7_advance_194 rfl ?_
            refine rw_if_ne (tgt := 220) dX7_advance_196 (by decide) (fun c42 => ?_) (fun c42 => ?_)
            · have h := bw_if c42 h
              refine rw_aload_n dX7_advance_220 rfl rfl ?_
              refine rw_iconst (v := 4) dX7_advance_221 (by decide) ?_
              refine rw_puti dX7_advance_222 fl_RX7_19 fp_7_2 (sh_tape w) (bw_kl (by decide)) (by decide) (fun _ => rfl) (fun _ => Nat.le_of_ble_eq_true rfl) ?_
              obtain ⟨M43, hM43, h⟩ := bw_mlE h
              refine rw_m hM43.symm ?_
              have h := Option.some.inj h
              subst h
              exact rw_vret dX7_advance_225 ⟨rfl, rfl⟩
            · have h := bw_it c42 h
              refine rw_aload_n dX7_advance_199 rfl rfl ?_
              refine rw_get dX7_advance_200 fl_RX7_19 (sh_tape w) (bw_kl (by decide)) rfl ?_
              refine rw_iconst (v := 2) dX7_advance_203 (by decide) ?_
              refine rw_icmp_ne (tgt := 225) dX7_advance_204 (by decide) (fun c44 => ?_) (fun c44 => ?_)
              · have h := bw_if c44 h
                have h := Option.some.inj h
                subst h
                exact rw_vret dX7_advance_225 ⟨rfl, rfl⟩
              · have h := bw_it c44 h
                refine rw_aload_n dX7_advance_207 rfl rfl ?_
                refine rw_get dX7_advance_208 fl_RX7_22 (sh_tape w) (bw_kl (by decide)) rfl ?_
                refine rw_aload_n dX7_advance_211 rfl rfl ?_
                refine rw_get dX7_advance_212 fl_RX7_28 (sh_tape w) (bw_kl (by decide)) rfl ?_
                refine rw_isub dX7_advance_215 ?_
                refine rw_iconst (v := 4) dX7_advance_216 (by decide) ?_
                refine rw_icmp_le (tgt := 225) dX7_advance_217 (by decide) (fun c45 => ?_) (fun c45 => ?_)
                · have h := bw_it c45 h
                  have h := Option.some.inj h
                  subst h
                  exact rw_vret dX7_advance_225 ⟨rfl, rfl⟩
                · have h := bw_if c45 h
                  refine rw_aload_n dX7_advance_220 rfl rfl ?_
                  refine rw_iconst (v := 4) dX7_advance_221 (by decide) ?_
                  refine rw_puti dX7_advance_222 fl_RX7_19 fp_7_2 (sh_tape w) (bw_kl (by decide)) (by decide) (fun _ => rfl) (fun _ => Nat.le_of_ble_eq_true rfl) ?_
                  obtain ⟨M46, hM46, h⟩ := bw_mlE h
                  refine rw_m hM46.symm ?_
                  have h := Option.some.inj h
                  subst h
                  exact rw_vret dX7_advance_225 ⟨rfl, rfl⟩
          · have h := bw_if c41 h
            refine rw_aload_n dX7_advance_179 rfl rfl ?_
            refine rw_get dX7_advance_180 fl_RX7_28 (sh_tape w) (bw_kl (by decide)) rfl ?_
            refine rw_iload_n dX7_advance_183 rfl rfl ?_
            refine rw_icmp_ne (tgt := 191) dX7_advance_184 (by decide) (fun c47 => ?_) (fun c47 => ?_)
            · have h := bw_if c47 h
              refine rw_iconst (v := 0) dX7_advance_191 (by decide) ?_
              refine rw_istore dX7_advance_192 (by decide) ?_
              refine rw_iload dX7_advance_194 rfl ?_
              refine rw_if_ne (tgt := 220) dX7_advance_196 (by decide) (fun c48 => ?_) (fun c48 => ?_)
              · have h := bw_if c48 h
                refine rw_aload_n dX7_advance_220 rfl rfl ?_
                refine rw_iconst (v := 4) dX7_advance_221 (by decide) ?_
                refine rw_puti dX7_advance_222 fl_RX7_19 fp_7_2 (sh_tape w) (bw_kl (by decide)) (by decide) (fun _ => rfl) (fun _ => Nat.le_of_ble_eq_true rfl) ?_
                obtain ⟨M49, hM49, h⟩ := bw_mlE h
                refine rw_m hM49.symm ?_
                have h := Option.some.inj h
                subst h
                exact rw_vret dX7_advance_225 ⟨rfl, rfl⟩
              · have h := bw_it c48 h
                refine rw_aload_n dX7_advance_199 rfl rfl ?_
                refine rw_get dX7_advance_200 fl_RX7_19 (sh_tape w) (bw_kl (by decide)) rfl ?_
                refine rw_iconst (v := 2) dX7_advance_203 (by decide) ?_
                refine rw_icmp_ne (tgt := 225) dX7_advance_204 (by decide) (fun c50 => ?_) (fun c50 => ?_)
                · have h := bw_if c50 h
                  have h := Option.some.inj h
                  subst h
                  exact rw_vret dX7_advance_225 ⟨rfl, rfl⟩
                · have h := bw_it c50 h
                  refine rw_aload_n dX7_advance_207 rfl rfl ?_
                  refine rw_get dX7_advance_208 fl_RX7_22 (sh_tape w) (bw_kl (by decide)) rfl ?_
                  refine rw_aload_n dX7_advance_211 rfl rfl ?_
                  refine rw_get dX7_advance_212 fl_RX7_28 (sh_tape w) (bw_kl (by decide)) rfl ?_
                  refine rw_isub dX7_advance_215 ?_
                  refine rw_iconst (v := 4) dX7_advance_216 (by decide) ?_
                  refine rw_icmp_le (tgt := 225) dX7_advance_217 (by decide) (fun c51 => ?_) (fun c51 => ?_)
                  · have h := bw_it c51 h
                    have h := Option.some.inj h
                    subst h
                    exact rw_vret dX7_advance_225 ⟨rfl, rfl⟩
                  · have h := bw_if c51 h
                    refine rw_aload_n dX7_advance_220 rfl rfl ?_
                    refine rw_iconst (v := 4) dX7_advance_221 (by decide) ?_
                    refine rw_puti dX7_advance_222 fl_RX7_19 fp_7_2 (sh_tape w) (bw_kl (by decide)) (by decide) (fun _ => rfl) (fun _ => Nat.le_of_ble_eq_true rfl) ?_
                    obtain ⟨M52, hM52, h⟩ := bw_mlE h
                    refine rw_m hM52.symm ?_
                    have h := Option.some.inj h
                    subst h
                    exact rw_vret dX7_advance_225 ⟨rfl, rfl⟩
            · have h := bw_it c47 h
              refine rw_iconst (v := 1) dX7_advance_187 (by decide) ?_
              refine rw_goto (tgt := 192) dX7_advance_188 (by decide) ?_
              refine rw_istore dX7_advance_192 (by decide) ?_
              refine rw_iload dX7_advance_194 rfl ?_
              refine rw_if_ne (tgt := 220) dX7_advance_196 (by decide) (fun c53 => ?_) (fun c53 => ?_)
              · have h := bw_if c53 h
                refine rw_aload_n dX7_advance_220 rfl rfl ?_
                refine rw_iconst (v := 4) dX7_advance_221 (by decide) ?_
                refine rw_puti dX7_advance_222 fl_RX7_19 fp_7_2 (sh_tape w) (bw_kl (by decide)) (by decide) (fun _ => rfl) (fun _ => Nat.le_of_ble_eq_true rfl) ?_
                obtain ⟨M54, hM54, h⟩ := bw_mlE h
                refine rw_m hM54.symm ?_
                have h := Option.some.inj h
                subst h
                exact rw_vret dX7_advance_225 ⟨rfl, rfl⟩
              · have h := bw_it c53 h
                refine rw_aload_n dX7_advance_199 rfl rfl ?_
                refine rw_get dX7_advance_200 fl_RX7_19 (sh_tape w) (bw_kl (by decide)) rfl ?_
                refine rw_iconst (v := 2) dX7_advance_203 (by decide) ?_
                refine rw_icmp_ne (tgt := 225) dX7_advance_204 (by decide) (fun c55 => ?_) (fun c55 => ?_)
                · have h := bw_if c55 h
                  have h := Option.some.inj h
                  subst h
                  exact rw_vret dX7_advance_225 ⟨rfl, rfl⟩
                · have h := bw_it c55 h
                  refine rw_aload_n dX7_advance_207 rfl rfl ?_
                  refine rw_get dX7_advance_208 fl_RX7_22 (sh_tape w) (bw_kl (by decide)) rfl ?_
                  refine rw_aload_n dX7_advance_211 rfl rfl ?_
                  refine rw_get dX7_advance_212 fl_RX7_28 (sh_tape w) (bw_kl (by decide)) rfl ?_
                  refine rw_isub dX7_advance_215 ?_
                  refine rw_iconst (v := 4) dX7_advance_216 (by decide) ?_
                  refine rw_icmp_le (tgt := 225) dX7_advance_217 (by decide) (fun c56 => ?_) (fun c56 => ?_)
                  · have h := bw_it c56 h
                    have h := Option.some.inj h
                    subst h
                    exact rw_vret dX7_advance_225 ⟨rfl, rfl⟩
                  · have h := bw_if c56 h
                    refine rw_aload_n dX7_advance_220 rfl rfl ?_
                    refine rw_iconst (v := 4) dX7_advance_221 (by decide) ?_
                    refine rw_puti dX7_advance_222 fl_RX7_19 fp_7_2 (sh_tape w) (bw_kl (by decide)) (by decide) (fun _ => rfl) (fun _ => Nat.le_of_ble_eq_true rfl) ?_
                    obtain ⟨M57, hM57, h⟩ := bw_mlE h
                    refine rw_m hM57.symm ?_
                    have h := Option.some.inj h
                    subst h
                    exact rw_vret dX7_advance_225 ⟨rfl, rfl⟩
      · have h := bw_if c34 h
        refine rw_aload_n dX7_advance_143 rfl rfl ?_
        refine rw_aload_n dX7_advance_144 rfl rfl ?_
        refine rw_get dX7_advance_145 fl_RX7_22 (sh_tape w) (bw_kl (by decide)) rfl ?_
        obtain ⟨q58, hq58, h⟩ := bw_bd h
        refine rw_callV1 dX7_advance_148 ln_RX7_31 mv_X7_sortAt (sh_tape w) (bw_kl (by decide)) (ct_X7_sortAt hq58) (Nat.le_of_ble_eq_true rfl) (Nat.le_of_ble_eq_true rfl) (bw_kki ?_)
        refine rw_aload_n dX7_advance_151 rfl rfl ?_
        refine rw_get dX7_advance_152 fl_RX7_19 (sh_tape w) (bw_kl (by decide)) rfl ?_
        refine rw_icmp_ne (tgt := 171) dX7_advance_155 (by decide) (fun c59 => ?_) (fun c59 => ?_)
        · have h := bw_if c59 h
          refine rw_iload_n dX7_advance_171 rfl rfl ?_
          refine rw_if_eq (tgt := 191) dX7_advance_172 (by decide) (fun c60 => ?_) (fun c60 => ?_)
          · have h := bw_it c60 h
            refine rw_iconst (v := 0) dX7_advance_191 (by decide) ?_
            refine rw_istore dX7_advance_192 (by decide) ?_
            refine rw_iload dX7_advance_194 rfl ?_
            refine rw_if_ne (tgt := 220) dX7_advance_196 (by decide) (fun c61 => ?_) (fun c61 => ?_)
            · have h := bw_if c61 h
              refine rw_aload_n dX7_advance_220 rfl rfl ?_
              refine rw_iconst (v := 4) dX7_advance_221 (by decide) ?_
              refine rw_puti dX7_advance_222 fl_RX7_19 fp_7_2 (sh_tape w) (bw_kl (by decide)) (by decide) (fun _ => rfl) (fun _ => Nat.le_of_ble_eq_true rfl) ?_
              obtain ⟨M62, hM62, h⟩ := bw_mlE h
              refine rw_m hM62.symm ?_
              have h := Option.some.inj h
              subst h
              exact rw_vret dX7_advance_225 ⟨rfl, rfl⟩
            · have h := bw_it c61 h
              refine rw_aload_n dX7_advance_199 rfl rfl ?_
              refine rw_get dX7_advance_200 fl_RX7_19 (sh_tape w) (bw_kl (by decide)) rfl ?_
              refine rw_iconst (v := 2) dX7_advance_203 (by decide) ?_
              refine rw_icmp_ne (tgt := 225) dX7_advance_204 (by decide) (fun c63 => ?_) (fun c63 => ?_)
              · have h := bw_if c63 h
                have h := Option.some.inj h
                subst h
                exact rw_vret dX7_advance_225 ⟨rfl, rfl⟩
              · have h := bw_it c63 h
                refine rw_aload_n dX7_advance_207 rfl rfl ?_
                refine rw_get dX7_advance_208 fl_RX7_22 (sh_tape w) (bw_kl (by decide)) rfl ?_
                refine rw_aload_n dX7_advance_211 rfl rfl ?_
                refine rw_get dX7_advance_212 fl_RX7_28 (sh_tape w) (bw_kl (by decide)) rfl ?_
                refine rw_isub dX7_advance_215 ?_
                refine rw_iconst (v := 4) dX7_advance_216 (by decide) ?_
                refine rw_icmp_le (tgt := 225) dX7_advance_217 (by decide) (fun c64 => ?_) (fun c64 => ?_)
                · have h := bw_it c64 h
                  have h := Option.some.inj h
                  subst h
                  exact rw_vret dX7_advance_225 ⟨rfl, rfl⟩
                · have h := bw_if c64 h
                  refine rw_aload_n dX7_advance_220 rfl rfl ?_
                  refine rw_iconst (v := 4) dX7_advance_221 (by decide) ?_
                  refine rw_puti dX7_advance_222 fl_RX7_19 fp_7_2 (sh_tape w) (bw_kl (by decide)) (by decide) (fun _ => rfl) (fun _ => Nat.le_of_ble_eq_true rfl) ?_
                  obtain ⟨M65, hM65, h⟩ := bw_mlE h
                  refine rw_m hM65.symm ?_
                  have h := Option.some.inj h
                  subst h
                  exact rw_vret dX7_advance_225 ⟨rfl, rfl⟩
          · have h := bw_if c60 h
            refine rw_iload_n dX7_advance_175 rfl rfl ?_
            refine rw_if_eq (tgt := 191) dX7_advance_176 (by decide) (fun c66 => ?_) (fun c66 => ?_)
            · have h := bw_it c66 h
              refine rw_iconst (v := 0) dX7_advance_191 (by decide) ?_
              refine rw_istore dX7_advance_192 (by decide) ?_
              refine rw_iload dX7_advance_194 rfl ?_
              refine rw_if_ne (tgt := 220) dX7_advance_196 (by decide) (fun c67 => ?_) (fun c67 => ?_)
              · have h := bw_if c67 h
                refine rw_aload_n dX7_advance_220 rfl rfl ?_
                refine rw_iconst (v := 4) dX7_advance_221 (by decide) ?_
                refine rw_puti dX7_advance_222 fl_RX7_19 fp_7_2 (sh_tape w) (bw_kl (by decide)) (by decide) (fun _ => rfl) (fun _ => Nat.le_of_ble_eq_true rfl) ?_
                obtain ⟨M68, hM68, h⟩ := bw_mlE h
                refine rw_m hM68.symm ?_
                have h := Option.some.inj h
                subst h
                exact rw_vret dX7_advance_225 ⟨rfl, rfl⟩
              · have h := bw_it c67 h
                refine rw_aload_n dX7_advance_199 rfl rfl ?_
                refine rw_get dX7_advance_200 fl_RX7_19 (sh_tape w) (bw_kl (by decide)) rfl ?_
                refine rw_iconst (v := 2) dX7_advance_203 (by decide) ?_
                refine rw_icmp_ne (tgt := 225) dX7_advance_204 (by decide) (fun c69 => ?_) (fun c69 => ?_)
                · have h := bw_if c69 h
                  have h := Option.some.inj h
                  subst h
                  exact rw_vret dX7_advance_225 ⟨rfl, rfl⟩
                · have h := bw_it c69 h
                  refine rw_aload_n dX7_advance_207 rfl rfl ?_
                  refine rw_get dX7_advance_208 fl_RX7_22 (sh_tape w) (bw_kl (by decide)) rfl ?_
                  refine rw_aload_n dX7_advance_211 rfl rfl ?_
                  refine rw_get dX7_advance_212 fl_RX7_28 (sh_tape w) (bw_kl (by decide)) rfl ?_
                  refine rw_isub dX7_advance_215 ?_
                  refine rw_iconst (v := 4) dX7_advance_216 (by decide) ?_
                  refine rw_icmp_le (tgt := 225) dX7_advance_217 (by decide) (fun c70 => ?_) (fun c70 => ?_)
                  · have h := bw_it c70 h
                    have h := Option.some.inj h
                    subst h
                    exact rw_vret dX7_advance_225 ⟨rfl, rfl⟩
                  · have h := bw_if c70 h
                    refine rw_aload_n dX7_advance_220 rfl rfl ?_
                    refine rw_iconst (v := 4) dX7_advance_221 (by decide) ?_
                    refine rw_puti dX7_advance_222 fl_RX7_19 fp_7_2 (sh_tape w) (bw_kl (by decide)) (by decide) (fun _ => rfl) (fun _ => Nat.le_of_ble_eq_true rfl) ?_
                    obtain ⟨M71, hM71, h⟩ := bw_mlE h
                    refine rw_m hM71.symm ?_
                    have h := Option.some.inj h
                    subst h
                    exact rw_vret dX7_advance_225 ⟨rfl, rfl⟩
            · have h := bw_if c66 h
              refine rw_aload_n dX7_advance_179 rfl rfl ?_
              refine rw_get dX7_advance_180 fl_RX7_28 (sh_tape w) (bw_kl (by decide)) rfl ?_
              refine rw_iload_n dX7_advance_183 rfl rfl ?_
              refine rw_icmp_ne (tgt := 191) dX7_advance_184 (by decide) (fun c72 => ?_) (fun c72 => ?_)
              · have h := bw_if c72 h
                refine rw_iconst (v := 0) dX7_advance_191 (by decide) ?_
                refine rw_istore dX7_advance_192 (by decide) ?_
                refine rw_iload dX7_advance_194 rfl ?_
                refine rw_if_ne (tgt := 220) dX7_advance_196 (by decide) (fun c73 => ?_) (fun c73 => ?_)
                · have h := bw_if c73 h
                  refine rw_aload_n dX7_advance_220 rfl rfl ?_
                  refine rw_iconst (v := 4) dX7_advance_221 (by decide) ?_
                  refine rw_puti dX7_advance_222 fl_RX7_19 fp_7_2 (sh_tape w) (bw_kl (by decide)) (by decide) (fun _ => rfl) (fun _ => Nat.le_of_ble_eq_true rfl) ?_
                  obtain ⟨M74, hM74, h⟩ := bw_mlE h
                  refine rw_m hM74.symm ?_
                  have h := Option.some.inj h
                  subst h
                  exact rw_vret dX7_advance_225 ⟨rfl, rfl⟩
                · have h := bw_it c73 h
                  refine rw_aload_n dX7_advance_199 rfl rfl ?_
                  refine rw_get dX7_advance_200 fl_RX7_19 (sh_tape w) (bw_kl (by decide)) rfl ?_
                  refine rw_iconst (v := 2) dX7_advance_203 (by decide) ?_
                  refine rw_icmp_ne (tgt := 225) dX7_advance_204 (by decide) (fun c75 => ?_) (fun c75 => ?_)
                  · have h := bw_if c75 h
                    have h := Option.some.inj h
                    subst h
                    exact rw_vret dX7_advance_225 ⟨rfl, rfl⟩
                  · have h := bw_it c75 h
                    refine rw_aload_n dX7_advance_207 rfl rfl ?_
                    refine rw_get dX7_advance_208 fl_RX7_22 (sh_tape w) (bw_kl (by decide)) rfl ?_
                    refine rw_aload_n dX7_advance_211 rfl rfl ?_
                    refine rw_get dX7_advance_212 fl_RX7_28 (sh_tape w) (bw_kl (by decide)) rfl ?_
                    refine rw_isub dX7_advance_215 ?_
                    refine rw_iconst (v := 4) dX7_advance_216 (by decide) ?_
                    refine rw_icmp_le (tgt := 225) dX7_advance_217 (by decide) (fun c76 => ?_) (fun c76 => ?_)
                    · have h := bw_it c76 h
                      have h := Option.some.inj h
                      subst h
                      exact rw_vret dX7_advance_225 ⟨rfl, rfl⟩
                    · have h := bw_if c76 h
                      refine rw_aload_n dX7_advance_220 rfl rfl ?_
                      refine rw_iconst (v := 4) dX7_advance_221 (by decide) ?_
                      refine rw_puti dX7_advance_222 fl_RX7_19 fp_7_2 (sh_tape w) (bw_kl (by decide)) (by decide) (fun _ => rfl) (fun _ => Nat.le_of_ble_eq_true rfl) ?_
                      obtain ⟨M77, hM77, h⟩ := bw_mlE h
                      refine rw_m hM77.symm ?_
                      have h := Option.some.inj h
                      subst h
                      exact rw_vret dX7_advance_225 ⟨rfl, rfl⟩
              · have h := bw_it c72 h
                refine rw_iconst (v := 1) dX7_advance_187 (by decide) ?_
                refine rw_goto (tgt := 192) dX7_advance_188 (by decide) ?_
                refine rw_istore dX7_advance_192 (by decide) ?_
                refine rw_iload dX7_advance_194 rfl ?_
                refine rw_if_ne (tgt := 220) dX7_advance_196 (by decide) (fun c78 => ?_) (fun c78 => ?_)
                · have h := bw_if c78 h
                  refine rw_aload_n dX7_advance_220 rfl rfl ?_
                  refine rw_iconst (v := 4) dX7_advance_221 (by decide) ?_
                  refine rw_puti dX7_advance_222 fl_RX7_19 fp_7_2 (sh_tape w) (bw_kl (by decide)) (by decide) (fun _ => rfl) (fun _ => Nat.le_of_ble_eq_true rfl) ?_
                  obtain ⟨M79, hM79, h⟩ := bw_mlE h
                  refine rw_m hM79.symm ?_
                  have h := Option.some.inj h
                  subst h
                  exact rw_vret dX7_advance_225 ⟨rfl, rfl⟩
                · have h := bw_it c78 h
                  refine rw_aload_n dX7_advance_199 rfl rfl ?_
                  refine rw_get dX7_advance_200 fl_RX7_19 (sh_tape w) (bw_kl (by decide)) rfl ?_
                  refine rw_iconst (v := 2) dX7_advance_203 (by decide) ?_
                  refine rw_icmp_ne (tgt := 225) dX7_advance_204 (by decide) (fun c80 => ?_) (fun c80 => ?_)
                  · have h := bw_if c80 h
                    have h := Option.some.inj h
                    subst h
                    exact rw_vret dX7_advance_225 ⟨rfl, rfl⟩
                  · have h := bw_it c80 h
                    refine rw_aload_n dX7_advance_207 rfl rfl ?_
                    refine rw_get dX7_advance_208 fl_RX7_22 (sh_tape w) (bw_kl (by decide)) rfl ?_
                    refine rw_aload_n dX7_advance_211 rfl rfl ?_
                    refine rw_get dX7_advance_212 fl_RX7_28 (sh_tape w) (bw_kl (by decide)) rfl ?_
                    refine rw_isub dX7_advance_215 ?_
                    refine rw_iconst (v := 4) dX7_advance_216 (by decide) ?_
                    refine rw_icmp_le (tgt := 225) dX7_advance_217 (by decide) (fun c81 => ?_) (fun c81 => ?_)
                    · have h := bw_it c81 h
                      have h := Option.some.inj h
                      subst h
                      exact rw_vret dX7_advance_225 ⟨rfl, rfl⟩
                    · have h := bw_if c81 h
                      refine rw_aload_n dX7_advance_220 rfl rfl ?_
                      refine rw_iconst (v := 4) dX7_advance_221 (by decide) ?_
                      refine rw_puti dX7_advance_222 fl_RX7_19 fp_7_2 (sh_tape w) (bw_kl (by decide)) (by decide) (fun _ => rfl) (fun _ => Nat.le_of_ble_eq_true rfl) ?_
                      obtain ⟨M82, hM82, h⟩ := bw_mlE h
                      refine rw_m hM82.symm ?_
                      have h := Option.some.inj h
                      subst h
                      exact rw_vret dX7_advance_225 ⟨rfl, rfl⟩
        · have h := bw_it c59 h
          refine rw_aload_n dX7_advance_158 rfl rfl ?_
          refine rw_dup dX7_advance_159 rfl ?_
          refine rw_get dX7_advance_160 fl_RX7_22 (sh_tape w) (bw_kl (by decide)) rfl ?_
          refine rw_iconst (v := 1) dX7_advance_163 (by decide) ?_
          refine rw_iadd dX7_advance_164 ?_
          refine rw_puti dX7_advance_165 fl_RX7_22 fp_7_4 (sh_tape w) (bw_kl (by decide)) (by decide) (fun _ => rfl) (fun _ => Nat.le_of_ble_eq_true rfl) ?_
          obtain ⟨M83, hM83, h⟩ := bw_mlE h
          refine rw_m hM83.symm ?_
          refine rw_goto (tgt := 128) dX7_advance_168 (by decide) ?_
          exact rw_sub (rw_lc rfl (rw_lc rfl (rw_lc rfl (rw_lc rfl rw_lz)))) (ih M83 h)
set_option maxRecDepth 20000 in
set_option maxHeartbeats 1000000 in
theorem th_X7_advance_L32 {w : WE} {v1 : Int32} {v2 : Int32} {out : Mem} : ∀ (n : Nat) (M : Mem), f_X7_advance_L32 v1 v2 n M = some out → RW w 2 0 0 0 0 cX7_advance RX7 5 none (bw_Z w (bw_pv out)) 32 [(0, .ref (bw_ad w 16)), (1, .int v1), (2, .int v2)] [] M := by
  intro n
  induction n with
  | zero => intro M h; cases h
  | succ n ih =>
    intro M h
    rw [f_X7_advance_L32] at h
    refine rw_aload_n dX7_advance_32 rfl rfl ?_
    refine rw_get dX7_advance_33 fl_RX7_28 (sh_tape w) (bw_kl (by decide)) rfl ?_
    refine rw_aload_n dX7_advance_36 rfl rfl ?_
    refine rw_get dX7_advance_37 fl_RX7_15 (sh_tape w) (bw_kl (by decide)) rfl ?_
    refine rw_icmp_ge (tgt := 70) dX7_advance_40 (by decide) (fun c4 => ?_) (fun c4 => ?_)
    · have h := bw_it c4 h
      refine rw_aload_n dX7_advance_70 rfl rfl ?_
      refine rw_aload_n dX7_advance_71 rfl rfl ?_
      refine rw_aload_n dX7_advance_72 rfl rfl ?_
      refine rw_get dX7_advance_73 fl_RX7_28 (sh_tape w) (bw_kl (by decide)) rfl ?_
      obtain ⟨q5, hq5, h⟩ := bw_bd h
      refine rw_callV1 dX7_advance_76 ln_RX7_31 mv_X7_sortAt (sh_tape w) (bw_kl (by decide)) (ct_X7_sortAt hq5) (Nat.le_of_ble_eq_true rfl) (Nat.le_of_ble_eq_true rfl) (bw_kki ?_)
      refine rw_puti dX7_advance_79 fl_RX7_19 fp_7_2 (sh_tape w) (bw_kl (by decide)) (by decide) (fun _ => rfl) (fun _ => Nat.le_of_ble_eq_true rfl) ?_
      obtain ⟨M6, hM6, h⟩ := bw_mlE h
      refine rw_m hM6.symm ?_
      refine rw_aload_n dX7_advance_82 rfl rfl ?_
      refine rw_get dX7_advance_83 fl_RX7_19 (sh_tape w) (bw_kl (by decide)) rfl ?_
      refine rw_iconst (v := 1) dX7_advance_86 (by decide) ?_
      refine rw_icmp_eq (tgt := 98) dX7_advance_87 (by decide) (fun c7 => ?_) (fun c7 => ?_)
      · have h := bw_it c7 h
        refine rw_iconst (v := 1) dX7_advance_98 (by decide) ?_
        refine rw_goto (tgt := 103) dX7_advance_99 (by decide) ?_
        refine rw_istore_n dX7_advance_103 rfl (by decide) ?_
        refine rw_aload_n dX7_advance_104 rfl rfl ?_
        refine rw_aload_n dX7_advance_105 rfl rfl ?_
        refine rw_get dX7_advance_106 fl_RX7_19 (sh_tape w) (bw_kl (by decide)) rfl ?_
        refine rw_if_ne (tgt := 119) dX7_advance_109 (by decide) (fun c8 => ?_) (fun c8 => ?_)
        · have h := bw_if c8 h
          refine rw_aload_n dX7_advance_119 rfl rfl ?_
          refine rw_get dX7_advance_120 fl_RX7_28 (sh_tape w) (bw_kl (by decide)) rfl ?_
          refine rw_iconst (v := 1) dX7_advance_123 (by decide) ?_
          refine rw_iadd dX7_advance_124 ?_
          refine rw_puti dX7_advance_125 fl_RX7_22 fp_7_4 (sh_tape w) (bw_kl (by decide)) (by decide) (fun _ => rfl) (fun _ => Nat.le_of_ble_eq_true rfl) ?_
          obtain ⟨M9, hM9, h⟩ := bw_mlE h
          refine rw_m hM9.symm ?_
          exact rw_sub (rw_lc rfl (rw_lc rfl (rw_lc rfl (rw_lc rfl rw_lz)))) (th_X7_advance_L128 bw_fu M9 h)
        · have h := bw_it c8 h
          refine rw_aload_n dX7_advance_112 rfl rfl ?_
          refine rw_get dX7_advance_113 fl_RX7_28 (sh_tape w) (bw_kl (by decide)) rfl ?_
          refine rw_goto (tgt := 125) dX7_advance_116 (by decide) ?_
          refine rw_puti dX7_advance_125 fl_RX7_22 fp_7_4 (sh_tape w) (bw_kl (by decide)) (by decide) (fun _ => rfl) (fun _ => Nat.le_of_ble_eq_true rfl) ?_
          obtain ⟨M84, hM84, h⟩ := bw_mlE h
          refine rw_m hM84.symm ?_
          exact rw_sub (rw_lc rfl (rw_lc rfl (rw_lc rfl (rw_lc rfl rw_lz)))) (th_X7_advance_L128 bw_fu M84 h)
      · have h := bw_if c7 h
        refine rw_aload_n dX7_advance_90 rfl rfl ?_
        refine rw_get dX7_advance_91 fl_RX7_19 (sh_tape w) (bw_kl (by decide)) rfl ?_
        refine rw_iconst (v := 2) dX7_advance_94 (by decide) ?_
        refine rw_icmp_ne (tgt := 102) dX7_advance_95 (by decide) (fun c85 => ?_) (fun c85 => ?_)
        · have h := bw_if c85 h
          refine rw_iconst (v := 0) dX7_advance_102 (by decide) ?_
          refine rw_istore_n dX7_advance_103 rfl (by decide) ?_
          refine rw_aload_n dX7_advance_104 rfl rfl ?_
          refine rw_aload_n dX7_advance_105 rfl rfl ?_
          refine rw_get dX7_advance_106 fl_RX7_19 (sh_tape w) (bw_kl (by decide)) rfl ?_
          refine rw_if_ne (tgt := 119) dX7_advance_109 (by decide) (fun c86 => ?_) (fun c86 => ?_)
          · have h := bw_if c86 h
            refine rw_aload_n dX7_advance_119 rfl rfl ?_
            refine rw_get dX7_advance_120 fl_RX7_28 (sh_tape w) (bw_kl (by decide)) rfl ?_
            refine rw_iconst (v := 1) dX7_advance_123 (by decide) ?_
            refine rw_iadd dX7_advance_124 ?_
            refine rw_puti dX7_advance_125 fl_RX7_22 fp_7_4 (sh_tape w) (bw_kl (by decide)) (by decide) (fun _ => rfl) (fun _ => Nat.le_of_ble_eq_true rfl) ?_
            obtain ⟨M87, hM87, h⟩ := bw_mlE h
            refine rw_m hM87.symm ?_
            exact rw_sub (rw_lc rfl (rw_lc rfl (rw_lc rfl (rw_lc rfl rw_lz)))) (th_X7_advance_L128 bw_fu M87 h)
          · have h := bw_it c86 h
            refine rw_aload_n dX7_advance_112 rfl rfl ?_
            refine rw_get dX7_advance_113 fl_RX7_28 (sh_tape w) (bw_kl (by decide)) rfl ?_
            refine rw_goto (tgt := 125) dX7_advance_116 (by decide) ?_
            refine rw_puti dX7_advance_125 fl_RX7_22 fp_7_4 (sh_tape w) (bw_kl (by decide)) (by decide) (fun _ => rfl) (fun _ => Nat.le_of_ble_eq_true rfl) ?_
            obtain ⟨M88, hM88, h⟩ := bw_mlE h
            refine rw_m hM88.symm ?_
            exact rw_sub (rw_lc rfl (rw_lc rfl (rw_lc rfl (rw_lc rfl rw_lz)))) (th_X7_advance_L128 bw_fu M88 h)
        · have h := bw_it c85 h
          refine rw_iconst (v := 1) dX7_advance_98 (by decide) ?_
          refine rw_goto (tgt := 103) dX7_advance_99 (by decide) ?_
          refine rw_istore_n dX7_advance_103 rfl (by decide) ?_
          refine rw_aload_n dX7_advance_104 rfl rfl ?_
          refine rw_aload_n dX7_advance_105 rfl rfl ?_
          refine rw_get dX7_advance_106 fl_RX7_19 (sh_tape w) (bw_kl (by decide)) rfl ?_
          refine rw_if_ne (tgt := 119) dX7_advance_109 (by decide) (fun c89 => ?_) (fun c89 => ?_)
          · have h := bw_if c89 h
            refine rw_aload_n dX7_advance_119 rfl rfl ?_
            refine rw_get dX7_advance_120 fl_RX7_28 (sh_tape w) (bw_kl (by decide)) rfl ?_
            refine rw_iconst (v := 1) dX7_advance_123 (by decide) ?_
            refine rw_iadd dX7_advance_124 ?_
            refine rw_puti dX7_advance_125 fl_RX7_22 fp_7_4 (sh_tape w) (bw_kl (by decide)) (by decide) (fun _ => rfl) (fun _ => Nat.le_of_ble_eq_true rfl) ?_
            obtain ⟨M90, hM90, h⟩ := bw_mlE h
            refine rw_m hM90.symm ?_
            exact rw_sub (rw_lc rfl (rw_lc rfl (rw_lc rfl (rw_lc rfl rw_lz)))) (th_X7_advance_L128 bw_fu M90 h)
          · have h := bw_it c89 h
            refine rw_aload_n dX7_advance_112 rfl rfl ?_
            refine rw_get dX7_advance_113 fl_RX7_28 (sh_tape w) (bw_kl (by decide)) rfl ?_
            refine rw_goto (tgt := 125) dX7_advance_116 (by decide) ?_
            refine rw_puti dX7_advance_125 fl_RX7_22 fp_7_4 (sh_tape w) (bw_kl (by decide)) (by decide) (fun _ => rfl) (fun _ => Nat.le_of_ble_eq_true rfl) ?_
            obtain ⟨M91, hM91, h⟩ := bw_mlE h
            refine rw_m hM91.symm ?_
            exact rw_sub (rw_lc rfl (rw_lc rfl (rw_lc rfl (rw_lc rfl rw_lz)))) (th_X7_advance_L128 bw_fu M91 h)
    · have h := bw_if c4 h
      refine rw_aload_n dX7_advance_43 rfl rfl ?_
      refine rw_get dX7_advance_44 fl_RX7_9 (sh_tape w) (bw_kl (by decide)) rfl ?_
      refine rw_aload_n dX7_advance_47 rfl rfl ?_
      refine rw_get dX7_advance_48 fl_RX7_28 (sh_tape w) (bw_kl (by decide)) rfl ?_
      obtain ⟨g92, h⟩ := bw_gd h
      refine rw_iald dX7_advance_51 (sh_t_bytes w) (bw_kl (by decide)) (bw_in g92) ?_
      refine rw_bipush (v := 32) dX7_advance_52 (by decide) ?_
      refine rw_icmp_ne (tgt := 70) dX7_advance_54 (by decide) (fun c93 => ?_) (fun c93 => ?_)
      · have h := bw_if c93 h
        refine rw_aload_n dX7_advance_70 rfl rfl ?_
        refine rw_aload_n dX7_advance_71 rfl rfl ?_
        refine rw_aload_n dX7_advance_72 rfl rfl ?_
        refine rw_get dX7_advance_73 fl_RX7_28 (sh_tape w) (bw_kl (by decide)) rfl ?_
        obtain ⟨q94, hq94, h⟩ := bw_bd h
        refine rw_callV1 dX7_advance_76 ln_RX7_31 mv_X7_sortAt (sh_tape w) (bw_kl (by decide)) (ct_X7_sortAt hq94) (Nat.le_of_ble_eq_true rfl) (Nat.le_of_ble_eq_true rfl) (bw_kki ?_)
        refine rw_puti dX7_advance_79 fl_RX7_19 fp_7_2 (sh_tape w) (bw_kl (by decide)) (by decide) (fun _ => rfl) (fun _ => Nat.le_of_ble_eq_true rfl) ?_
        obtain ⟨M95, hM95, h⟩ := bw_mlE h
        refine rw_m hM95.symm ?_
        refine rw_aload_n dX7_advance_82 rfl rfl ?_
        refine rw_get dX7_advance_83 fl_RX7_19 (sh_tape w) (bw_kl (by decide)) rfl ?_
        refine rw_iconst (v := 1) dX7_advance_86 (by decide) ?_
        refine rw_icmp_eq (tgt := 98) dX7_advance_87 (by decide) (fun c96 => ?_) (fun c96 => ?_)
        · have h := bw_it c96 h
          refine rw_iconst (v := 1) dX7_advance_98 (by decide) ?_
          refine rw_goto (tgt := 103) dX7_advance_99 (by decide) ?_
          refine rw_istore_n dX7_advance_103 rfl (by decide) ?_
          refine rw_aload_n dX7_advance_104 rfl rfl ?_
          refine rw_aload_n dX7_advance_105 rfl rfl ?_
          refine rw_get dX7_advance_106 fl_RX7_19 (sh_tape w) (bw_kl (by decide)) rfl ?_
          refine rw_if_ne (tgt := 119) dX7_advance_109 (by decide) (fun c97 => ?_) (fun c97 => ?_)
          · have h := bw_if c97 h
            refine rw_aload_n dX7_advance_119 rfl rfl ?_
            refine rw_get dX7_advance_120 fl_RX7_28 (sh_tape w) (bw_kl (by decide)) rfl ?_
            refine rw_iconst (v := 1) dX7_advance_123 (by decide) ?_
            refine rw_iadd dX7_advance_124 ?_
            refine rw_puti dX7_advance_125 fl_RX7_22 fp_7_4 (sh_tape w) (bw_kl (by decide)) (by decide) (fun _ => rfl) (fun _ => Nat.le_of_ble_eq_true rfl) ?_
            obtain ⟨M98, hM98, h⟩ := bw_mlE h
            refine rw_m hM98.symm ?_
            exact rw_sub (rw_lc rfl (rw_lc rfl (rw_lc rfl (rw_lc rfl rw_lz)))) (th_X7_advance_L128 bw_fu M98 h)
          · have h := bw_it c97 h
            refine rw_aload_n dX7_advance_112 rfl rfl ?_
            refine rw_get dX7_advance_113 fl_RX7_28 (sh_tape w) (bw_kl (by decide)) rfl ?_
            refine rw_goto (tgt := 125) dX7_advance_116 (by decide) ?_
            refine rw_puti dX7_advance_125 fl_RX7_22 fp_7_4 (sh_tape w) (bw_kl (by decide)) (by decide) (fun _ => rfl) (fun _ => Nat.le_of_ble_eq_true rfl) ?_
            obtain ⟨M99, hM99, h⟩ := bw_mlE h
            refine rw_m hM99.symm ?_
            exact rw_sub (rw_lc rfl (rw_lc rfl (rw_lc rfl (rw_lc rfl rw_lz)))) (th_X7_advance_L128 bw_fu M99 h)
        · have h := bw_if c96 h
          refine rw_aload_n dX7_advance_90 rfl rfl ?_
          refine rw_get dX7_advance_91 fl_RX7_19 (sh_tape w) (bw_kl (by decide)) rfl ?_
          refine rw_iconst (v := 2) dX7_advance_94 (by decide) ?_
          refine rw_icmp_ne (tgt := 102) dX7_advance_95 (by decide) (fun c100 => ?_) (fun c100 => ?_)
          · have h := bw_if c100 h
            refine rw_iconst (v := 0) dX7_advance_102 (by decide) ?_
            refine rw_istore_n dX7_advance_103 rfl (by decide) ?_
            refine rw_aload_n dX7_advance_104 rfl rfl ?_
            refine rw_aload_n dX7_advance_105 rfl rfl ?_
            refine rw_get dX7_advance_106 fl_RX7_19 (sh_tape w) (bw_kl (by decide)) rfl ?_
            refine rw_if_ne (tgt := 119) dX7_advance_109 (by decide) (fun c101 => ?_) (fun c101 => ?_)
            · have h := bw_if c101 h
              refine rw_aload_n dX7_advance_119 rfl rfl ?_
              refine rw_get dX7_advance_120 fl_RX7_28 (sh_tape w) (bw_kl (by decide)) rfl ?_
              refine rw_iconst (v := 1) dX7_advance_123 (by decide) ?_
              refine rw_iadd dX7_advance_124 ?_
              refine rw_puti dX7_advance_125 fl_RX7_22 fp_7_4 (sh_tape w) (bw_kl (by decide)) (by decide) (fun _ => rfl) (fun _ => Nat.le_of_ble_eq_true rfl) ?_
              obtain ⟨M102, hM102, h⟩ := bw_mlE h
              refine rw_m hM102.symm ?_
              exact rw_sub (rw_lc rfl (rw_lc rfl (rw_lc rfl (rw_lc rfl rw_lz)))) (th_X7_advance_L128 bw_fu M102 h)
            · have h := bw_it c101 h
              refine rw_aload_n dX7_advance_112 rfl rfl ?_
              refine rw_get dX7_advance_113 fl_RX7_28 (sh_tape w) (bw_kl (by decide)) rfl ?_
              refine rw_goto (tgt := 125) dX7_advance_116 (by decide) ?_
              refine rw_puti dX7_advance_125 fl_RX7_22 fp_7_4 (sh_tape w) (bw_kl (by decide)) (by decide) (fun _ => rfl) (fun _ => Nat.le_of_ble_eq_true rfl) ?_
              obtain ⟨M103, hM103, h⟩ := bw_mlE h
              refine rw_m hM103.symm ?_
              exact rw_sub (rw_lc rfl (rw_lc rfl (rw_lc rfl (rw_lc rfl rw_lz)))) (th_X7_advance_L128 bw_fu M103 h)
          · have h := bw_it c100 h
            refine rw_iconst (v := 1) dX7_advance_98 (by decide) ?_
            refine rw_goto (tgt := 103) dX7_advance_99 (by decide) ?_
            refine rw_istore_n dX7_advance_103 rfl (by decide) ?_
            refine rw_aload_n dX7_advance_104 rfl rfl ?_
            refine rw_aload_n dX7_advance_105 rfl rfl ?_
            refine rw_get dX7_advance_106 fl_RX7_19 (sh_tape w) (bw_kl (by decide)) rfl ?_
            refine rw_if_ne (tgt := 119) dX7_advance_109 (by decide) (fun c104 => ?_) (fun c104 => ?_)
            · have h := bw_if c104 h
              refine rw_aload_n dX7_advance_119 rfl rfl ?_
              refine rw_get dX7_advance_120 fl_RX7_28 (sh_tape w) (bw_kl (by decide)) rfl ?_
              refine rw_iconst (v := 1) dX7_advance_123 (by decide) ?_
              refine rw_iadd dX7_advance_124 ?_
              refine rw_puti dX7_advance_125 fl_RX7_22 fp_7_4 (sh_tape w) (bw_kl (by decide)) (by decide) (fun _ => rfl) (fun _ => Nat.le_of_ble_eq_true rfl) ?_
              obtain ⟨M105, hM105, h⟩ := bw_mlE h
              refine rw_m hM105.symm ?_
              exact rw_sub (rw_lc rfl (rw_lc rfl (rw_lc rfl (rw_lc rfl rw_lz)))) (th_X7_advance_L128 bw_fu M105 h)
            · have h := bw_it c104 h
              refine rw_aload_n dX7_advance_112 rfl rfl ?_
              refine rw_get dX7_advance_113 fl_RX7_28 (sh_tape w) (bw_kl (by decide)) rfl ?_
              refine rw_goto (tgt := 125) dX7_advance_116 (by decide) ?_
              refine rw_puti dX7_advance_125 fl_RX7_22 fp_7_4 (sh_tape w) (bw_kl (by decide)) (by decide) (fun _ => rfl) (fun _ => Nat.le_of_ble_eq_true rfl) ?_
              obtain ⟨M106, hM106, h⟩ := bw_mlE h
              refine rw_m hM106.symm ?_
              exact rw_sub (rw_lc rfl (rw_lc rfl (rw_lc rfl (rw_lc rfl rw_lz)))) (th_X7_advance_L128 bw_fu M106 h)
      · have h := bw_it c93 h
        refine rw_aload_n dX7_advance_57 rfl rfl ?_
        refine rw_dup dX7_advance_58 rfl ?_
        refine rw_get dX7_advance_59 fl_RX7_28 (sh_tape w) (bw_kl (by decide)) rfl ?_
        refine rw_iconst (v := 1) dX7_advance_62 (by decide) ?_
        refine rw_iadd dX7_advance_63 ?_
        refine rw_puti dX7_advance_64 fl_RX7_28 fp_7_3 (sh_tape w) (bw_kl (by decide)) (by decide) (fun _ => rfl) (fun _ => Nat.le_of_ble_eq_true rfl) ?_
        obtain ⟨M107, hM107, h⟩ := bw_mlE h
        refine rw_m hM107.symm ?_
        refine rw_goto (tgt := 32) dX7_advance_67 (by decide) ?_
        exact rw_sub (rw_lc rfl (rw_lc rfl (rw_lc rfl rw_lz))) (ih M107 h)
set_option maxRecDepth 20000 in
set_option maxHeartbeats 1000000 in
theorem th_X7_advance_J26 {w : WE} {M : Mem} {v1 : Int32} {s0 : Int32} {out : Mem} (h : f_X7_advance_J26 M v1 s0 = some out) : RW w 2 0 0 0 0 cX7_advance RX7 5 none (bw_Z w (bw_pv out)) 26 [(0, .ref (bw_ad w 16)), (1, .int v1)] [.int s0] M := by
  unfold f_X7_advance_J26 at h
  refine rw_istore_n dX7_advance_26 rfl (by decide) ?_
  refine rw_aload_n dX7_advance_27 rfl rfl ?_
  refine rw_iload_n dX7_advance_28 rfl rfl ?_
  refine rw_puti dX7_advance_29 fl_RX7_28 fp_7_3 (sh_tape w) (bw_kl (by decide)) (by decide) (fun _ => rfl) (fun _ => Nat.le_of_ble_eq_true rfl) ?_
  obtain ⟨M3, hM3, h⟩ := bw_mlE h
  refine rw_m hM3.symm ?_
  exact rw_sub (rw_lc rfl (rw_lc rfl (rw_lc rfl rw_lz))) (th_X7_advance_L32 bw_fu M3 h)
set_option maxRecDepth 20000 in
set_option maxHeartbeats 1000000 in
theorem ct_X7_advance {w : WE} {M : Mem} {out : Mem} (h : f_X7_advance M = some out) : Ct w 2 yX7_advance cX7_advance 5 none [.ref (bw_ad w 16)] M (bw_pv out) := by
  refine Ct.of (own := RX7) rfl (by decide) (by intro v hv; rw [List.mem_singleton.mp hv]; first | rfl | exact bw_cat_rf _) (Nat.le_of_ble_eq_true rfl) ?_
  unfold f_X7_advance at h
  show RW w 2 0 0 0 0 cX7_advance RX7 5 none (bw_Z w (bw_pv out)) 0 [(0, .ref (bw_ad w 16))] [] M
  refine rw_aload_n dX7_advance_0 rfl rfl ?_
  refine rw_get dX7_advance_1 fl_RX7_22 (sh_tape w) (bw_kl (by decide)) rfl ?_
  refine rw_istore_n dX7_advance_4 rfl (by decide) ?_
  refine rw_aload_n dX7_advance_5 rfl rfl ?_
  refine rw_get dX7_advance_6 fl_RX7_19 (sh_tape w) (bw_kl (by decide)) rfl ?_
  refine rw_iconst (v := 1) dX7_advance_9 (by decide) ?_
  have key : RW w 2 0 0 0 0 cX7_advance RX7 5 none (bw_Z w (bw_pv out)) 26 [(0, .ref (bw_ad w 16)), (1, .int (M 16 4))] [.int (if (M 16 2) = (1 : Int32) then (1 : Int32) else (if (M 16 2) = (2 : Int32) then (1 : Int32) else (0 : Int32)))] M := by
    exact rw_sub (rw_lc rfl (rw_lc rfl rw_lz)) (th_X7_advance_J26 h)
  refine rw_icmp_eq (tgt := 21) dX7_advance_10 (by decide) (fun c1 => ?_) (fun c1 => ?_)
  · refine rw_iconst (v := 1) dX7_advance_21 (by decide) ?_
    refine rw_goto (tgt := 26) dX7_advance_22 (by decide) ?_
    simp only [if_pos c1] at key
    exact rw_sub (rw_lc rfl (rw_lc rfl rw_lz)) key
  · refine rw_aload_n dX7_advance_13 rfl rfl ?_
    refine rw_get dX7_advance_14 fl_RX7_19 (sh_tape w) (bw_kl (by decide)) rfl ?_
    refine rw_iconst (v := 2) dX7_advance_17 (by decide) ?_
    refine rw_icmp_ne (tgt := 25) dX7_advance_18 (by decide) (fun c2 => ?_) (fun c2 => ?_)
    · refine rw_iconst (v := 0) dX7_advance_25 (by decide) ?_
      simp only [if_neg c1, if_neg c2] at key
      exact rw_sub (rw_lc rfl (rw_lc rfl rw_lz)) key
    · refine rw_iconst (v := 1) dX7_advance_21 (by decide) ?_
      refine rw_goto (tgt := 26) dX7_advance_22 (by decide) ?_
      simp only [if_neg c1, if_pos c2] at key
      exact rw_sub (rw_lc rfl (rw_lc rfl rw_lz)) key
set_option maxRecDepth 20000 in
set_option maxHeartbeats 1000000 in
theorem ct_X7_begin {w : WE} {M : Mem} {out : Mem} (h : f_X7_begin M = some out) : Ct w 3 yX7_begin cX7_begin 1 none [.ref (bw_ad w 16)] M (bw_pv out) := by
  refine Ct.of (own := RX7) rfl (by decide) (by intro v hv; rw [List.mem_singleton.mp hv]; first | rfl | exact bw_cat_rf _) (Nat.le_of_ble_eq_true rfl) ?_
  unfold f_X7_begin at h
  show RW w 3 0 0 0 0 cX7_begin RX7 1 none (bw_Z w (bw_pv out)) 0 [(0, .ref (bw_ad w 16))] [] M
  refine rw_aload_n dX7_begin_0 rfl rfl ?_
  refine rw_iconst (v := 0) dX7_begin_1 (by decide) ?_
  refine rw_puti dX7_begin_2 fl_RX7_19 fp_7_2 (sh_tape w) (bw_kl (by decide)) (by decide) (fun _ => rfl) (fun _ => Nat.le_of_ble_eq_true rfl) ?_
  obtain ⟨M1, hM1, h⟩ := bw_mlE h
  refine rw_m hM1.symm ?_
  refine rw_aload_n dX7_begin_5 rfl rfl ?_
  refine rw_iconst (v := 0) dX7_begin_6 (by decide) ?_
  refine rw_puti dX7_begin_7 fl_RX7_22 fp_7_4 (sh_tape w) (bw_kl (by decide)) (by decide) (fun _ => rfl) (fun _ => Nat.le_of_ble_eq_true rfl) ?_
  obtain ⟨M2, hM2, h⟩ := bw_mlE h
  refine rw_m hM2.symm ?_
  refine rw_aload_n dX7_begin_10 rfl rfl ?_
  obtain ⟨q3, hq3, h⟩ := bw_bd h
  refine rw_callV0 dX7_begin_11 ln_RX7_25 mv_X7_advance (sh_tape w) (bw_kl (by decide)) (ct_X7_advance hq3) (Nat.le_of_ble_eq_true rfl) (Nat.le_of_ble_eq_true rfl) (bw_kkv ?_)
  have h := Option.some.inj h
  subst h
  exact rw_vret dX7_begin_14 ⟨rfl, rfl⟩
set_option maxRecDepth 20000 in
set_option maxHeartbeats 1000000 in
theorem th_X7_number_L7 {w : WE} {M : Mem} {out : Int32} : ∀ (n : Nat) (v1 : Int32) (v2 : Int32), f_X7_number_L7 M n v1 v2 = some out → RW w 0 0 0 0 0 cX7_number RX7 3 (some .int) (bw_Z w (bw_pi (out) M)) 7 [(0, .ref (bw_ad w 16)), (1, .int v1), (2, .int v2)] [] M := by
  intro n
  induction n with
  | zero => intro v1 v2 h; cases h
  | succ n ih =>
    intro v1 v2 h
    rw [f_X7_number_L7] at h
    refine rw_iload_n dX7_number_7 rfl rfl ?_
    refine rw_aload_n dX7_number_8 rfl rfl ?_
    refine rw_get dX7_number_9 fl_RX7_22 (sh_tape w) (bw_kl (by decide)) rfl ?_
    refine rw_icmp_ge (tgt := 44) dX7_number_12 (by decide) (fun c1 => ?_) (fun c1 => ?_)
    · have h := bw_it c1 h
      refine rw_iload_n dX7_number_44 rfl rfl ?_
      have h := Option.some.inj h
      subst h
      exact rw_iret dX7_number_45 ⟨rfl, rfl⟩
    · have h := bw_if c1 h
      refine rw_iload_n dX7_number_15 rfl rfl ?_
      refine rw_aload_n dX7_number_16 rfl rfl ?_
      refine rw_get dX7_number_17 fl_RX7_15 (sh_tape w) (bw_kl (by decide)) rfl ?_
      refine rw_icmp_ge (tgt := 44) dX7_number_20 (by decide) (fun c2 => ?_) (fun c2 => ?_)
      · have h := bw_it c2 h
        refine rw_iload_n dX7_number_44 rfl rfl ?_
        have h := Option.some.inj h
        subst h
        exact rw_iret dX7_number_45 ⟨rfl, rfl⟩
      · have h := bw_if c2 h
        refine rw_iload_n dX7_number_23 rfl rfl ?_
        refine rw_bipush (v := 10) dX7_number_24 (by decide) ?_
        refine rw_imul dX7_number_26 ?_
        refine rw_aload_n dX7_number_27 rfl rfl ?_
        refine rw_get dX7_number_28 fl_RX7_9 (sh_tape w) (bw_kl (by decide)) rfl ?_
        refine rw_iload_n dX7_number_31 rfl rfl ?_
        obtain ⟨g3, h⟩ := bw_gd h
        refine rw_iald dX7_number_32 (sh_t_bytes w) (bw_kl (by decide)) (bw_in g3) ?_
        refine rw_iadd dX7_number_33 ?_
        refine rw_bipush (v := 48) dX7_number_34 (by decide) ?_
        refine rw_isub dX7_number_36 ?_
        obtain ⟨x4, hx4, h⟩ := bw_mlE h
        refine rw_ti hx4 ?_
        refine rw_istore_n dX7_number_37 rfl (by decide) ?_
        refine rw_inc dX7_number_38 rfl (by decide) ?_
        refine rw_goto (tgt := 7) dX7_number_41 (by decide) ?_
        exact rw_sub (rw_lc rfl (rw_lc rfl (rw_lc rfl rw_lz))) (ih x4 (v2 + 1) h)
set_option maxRecDepth 20000 in
set_option maxHeartbeats 1000000 in
theorem ct_X7_number {w : WE} {M : Mem} {out : Int32} (h : f_X7_number M = some out) : Ct w 0 yX7_number cX7_number 3 (some .int) [.ref (bw_ad w 16)] M (bw_pi (out) M) := by
  refine Ct.of (own := RX7) rfl (by decide) (by intro v hv; rw [List.mem_singleton.mp hv]; first | rfl | exact bw_cat_rf _) (Nat.le_of_ble_eq_true rfl) ?_
  unfold f_X7_number at h
  show RW w 0 0 0 0 0 cX7_number RX7 3 (some .int) (bw_Z w (bw_pi (out) M)) 0 [(0, .ref (bw_ad w 16))] [] M
  refine rw_iconst (v := 0) dX7_number_0 (by decide) ?_
  refine rw_istore_n dX7_number_1 rfl (by decide) ?_
  refine rw_aload_n dX7_number_2 rfl rfl ?_
  refine rw_get dX7_number_3 fl_RX7_28 (sh_tape w) (bw_kl (by decide)) rfl ?_
  refine rw_istore_n dX7_number_6 rfl (by decide) ?_
  exact rw_sub (rw_lc rfl (rw_lc rfl (rw_lc rfl rw_lz))) (th_X7_number_L7 bw_fu (0 : Int32) (M 16 3) h)
set_option maxRecDepth 20000 in
set_option maxHeartbeats 1000000 in
theorem ct_X3_put {w : WE} {M : Mem} {v1 : Int32} {out : Mem} (h : f_X3_put M v1 = some out) : Ct w 0 yX3_put cX3_put 2 none [.ref (bw_ad w 14), .int v1] M (bw_pv out) := by
  refine Ct.of (own := RX3) rfl (by decide) (by intro v hv; simp only [List.mem_cons, List.not_mem_nil, or_false] at hv; rcases hv with rfl | rfl <;> first | rfl | exact bw_cat_rf _) (Nat.le_of_ble_eq_true rfl) ?_
  unfold f_X3_put at h
  show RW w 0 0 0 0 0 cX3_put RX3 2 none (bw_Z w (bw_pv out)) 0 [(0, .ref (bw_ad w 14)), (1, .int v1)] [] M
  refine rw_aload_n dX3_put_0 rfl rfl ?_
  refine rw_get dX3_put_1 fl_RX3_22 (sh_reader w) (bw_kl (by decide)) rfl ?_
  refine rw_bipush (v := 96) dX3_put_4 (by decide) ?_
  refine rw_icmp_ge (tgt := 29) dX3_put_6 (by decide) (fun c1 => ?_) (fun c1 => ?_)
  · have h := bw_it c1 h
    have h := Option.some.inj h
    subst h
    exact rw_vret dX3_put_29 ⟨rfl, rfl⟩
  · have h := bw_if c1 h
    refine rw_aload_n dX3_put_9 rfl rfl ?_
    refine rw_get dX3_put_10 fl_RX3_18 (sh_reader w) (bw_kl (by decide)) rfl ?_
    refine rw_aload_n dX3_put_13 rfl rfl ?_
    refine rw_get dX3_put_14 fl_RX3_22 (sh_reader w) (bw_kl (by decide)) rfl ?_
    refine rw_iload_n dX3_put_17 rfl rfl ?_
    obtain ⟨g2, h⟩ := bw_gd h
    refine rw_iast dX3_put_18 (sh_r_steps w) (bw_kl (by decide)) (bw_in g2) ?_
    obtain ⟨M3, hM3, h⟩ := bw_mlE h
    refine rw_m hM3.symm ?_
    refine rw_aload_n dX3_put_19 rfl rfl ?_
    refine rw_dup dX3_put_20 rfl ?_
    refine rw_get dX3_put_21 fl_RX3_22 (sh_reader w) (bw_kl (by decide)) rfl ?_
    refine rw_iconst (v := 1) dX3_put_24 (by decide) ?_
    refine rw_iadd dX3_put_25 ?_
    refine rw_puti dX3_put_26 fl_RX3_22 fp_3_2 (sh_reader w) (bw_kl (by decide)) (by decide) (fun _ => rfl) (fun _ => Nat.le_of_ble_eq_true rfl) ?_
    obtain ⟨M4, hM4, h⟩ := bw_mlE h
    refine rw_m hM4.symm ?_
    have h := Option.some.inj h
    subst h
    exact rw_vret dX3_put_29 ⟨rfl, rfl⟩
set_option maxRecDepth 20000 in
set_option maxHeartbeats 1000000 in
theorem ct_X7_sign {w : WE} {M : Mem} {out : Int32} (h : f_X7_sign M = some out) : Ct w 0 yX7_sign cX7_sign 1 (some .int) [.ref (bw_ad w 16)] M (bw_pi (out) M) := by
  refine Ct.of (own := RX7) rfl (by decide) (by intro v hv; rw [List.mem_singleton.mp hv]; first | rfl | exact bw_cat_rf _) (Nat.le_of_ble_eq_true rfl) ?_
  unfold f_X7_sign at h
  show RW w 0 0 0 0 0 cX7_sign RX7 1 (some .int) (bw_Z w (bw_pi (out) M)) 0 [(0, .ref (bw_ad w 16))] [] M
  refine rw_aload_n dX7_sign_0 rfl rfl ?_
  refine rw_get dX7_sign_1 fl_RX7_19 (sh_tape w) (bw_kl (by decide)) rfl ?_
  refine rw_iconst (v := 3) dX7_sign_4 (by decide) ?_
  refine rw_icmp_ne (tgt := 31) dX7_sign_5 (by decide) (fun c1 => ?_) (fun c1 => ?_)
  · have h := bw_if c1 h
    refine rw_iconst (v := 0) dX7_sign_31 (by decide) ?_
    have h := Option.some.inj h
    subst h
    exact rw_iret dX7_sign_32 ⟨rfl, rfl⟩
  · have h := bw_it c1 h
    refine rw_aload_n dX7_sign_8 rfl rfl ?_
    refine rw_get dX7_sign_9 fl_RX7_28 (sh_tape w) (bw_kl (by decide)) rfl ?_
    refine rw_aload_n dX7_sign_12 rfl rfl ?_
    refine rw_get dX7_sign_13 fl_RX7_15 (sh_tape w) (bw_kl (by decide)) rfl ?_
    refine rw_icmp_ge (tgt := 31) dX7_sign_16 (by decide) (fun c2 => ?_) (fun c2 => ?_)
    · have h := bw_it c2 h
      refine rw_iconst (v := 0) dX7_sign_31 (by decide) ?_
      have h := Option.some.inj h
      subst h
      exact rw_iret dX7_sign_32 ⟨rfl, rfl⟩
    · have h := bw_if c2 h
      refine rw_aload_n dX7_sign_19 rfl rfl ?_
      refine rw_get dX7_sign_20 fl_RX7_9 (sh_tape w) (bw_kl (by decide)) rfl ?_
      refine rw_aload_n dX7_sign_23 rfl rfl ?_
      refine rw_get dX7_sign_24 fl_RX7_28 (sh_tape w) (bw_kl (by decide)) rfl ?_
      obtain ⟨g3, h⟩ := bw_gd h
      refine rw_iald dX7_sign_27 (sh_t_bytes w) (bw_kl (by decide)) (bw_in g3) ?_
      refine rw_goto (tgt := 32) dX7_sign_28 (by decide) ?_
      have h := Option.some.inj h
      subst h
      exact rw_iret dX7_sign_32 ⟨rfl, rfl⟩
set_option maxRecDepth 20000 in
set_option maxHeartbeats 1000000 in
theorem ct_X3_isJoint {w : WE} {M : Mem} {v0 : Int32} {v1 : Int32} {out : Int32} (h : f_X3_isJoint v0 v1 = out) : Ct w 0 yX3_isJoint cX3_isJoint 2 (some .boolean) [.int v0, .int v1] M (bw_pz (out) M) := by
  refine Ct.of (own := RX3) rfl (by decide) (by intro v hv; simp only [List.mem_cons, List.not_mem_nil, or_false] at hv; rcases hv with rfl | rfl <;> first | rfl | exact bw_cat_rf _) (Nat.le_of_ble_eq_true rfl) ?_
  unfold f_X3_isJoint at h
  show RW w 0 0 0 0 0 cX3_isJoint RX3 2 (some .boolean) (bw_Z w (bw_pz (out) M)) 0 [(0, .int v0), (1, .int v1)] [] M
  refine rw_iload_n dX3_isJoint_0 rfl rfl ?_
  refine rw_case (0 : Int32) (fun c1 => ?_) (fun c1 => ?_)
  · have h := bw_it c1 h
    refine rw_tabK (tgt := 32) dX3_isJoint_1 c1 (by decide) (by decide) rfl (by decide) ?_
    refine rw_iload_n dX3_isJoint_32 rfl rfl ?_
    refine rw_bipush (v := 124) dX3_isJoint_33 (by decide) ?_
    have key : RW w 0 0 0 0 0 cX3_isJoint RX3 2 (some .boolean) (bw_Z w (bw_pz (out) M)) 43 [] [.int (if v1 = (124 : Int32) then (1 : Int32) else (0 : Int32))] M := by
      subst h
      exact rw_zret dX3_isJoint_43 (by (repeat' split) <;> first | exact bw_n0 | exact bw_n1) ⟨rfl, rfl, (by (repeat' split) <;> first | exact bw_n0 | exact bw_n1)⟩
    refine rw_icmp_ne (tgt := 42) dX3_isJoint_35 (by decide) (fun c2 => ?_) (fun c2 => ?_)
    · refine rw_iconst (v := 0) dX3_isJoint_42 (by decide) ?_
      simp only [if_neg c2] at key
      exact rw_sub rw_lz key
    · refine rw_iconst (v := 1) dX3_isJoint_38 (by decide) ?_
      refine rw_goto (tgt := 43) dX3_isJoint_39 (by decide) ?_
      simp only [if_pos c2] at key
      exact rw_sub rw_lz key
  · have h := bw_if c1 h
    refine rw_case (1 : Int32) (fun c3 => ?_) (fun c3 => ?_)
    · have h := bw_it c3 h
      refine rw_tabK (tgt := 44) dX3_isJoint_1 c3 (by decide) (by decide) rfl (by decide) ?_
      refine rw_iload_n dX3_isJoint_44 rfl rfl ?_
      refine rw_bipush (v := 38) dX3_isJoint_45 (by decide) ?_
      have key : RW w 0 0 0 0 0 cX3_isJoint RX3 2 (some .boolean) (bw_Z w (bw_pz (out) M)) 55 [] [.int (if v1 = (38 : Int32) then (1 : Int32) else (0 : Int32))] M := by
        subst h
        exact rw_zret dX3_isJoint_55 (by (repeat' split) <;> first | exact bw_n0 | exact bw_n1) ⟨rfl, rfl, (by (repeat' split) <;> first | exact bw_n0 | exact bw_n1)⟩
      refine rw_icmp_ne (tgt := 54) dX3_isJoint_47 (by decide) (fun c4 => ?_) (fun c4 => ?_)
      · refine rw_iconst (v := 0) dX3_isJoint_54 (by decide) ?_
        simp only [if_neg c4] at key
        exact rw_sub rw_lz key
      · refine rw_iconst (v := 1) dX3_isJoint_50 (by decide) ?_
        refine rw_goto (tgt := 55) dX3_isJoint_51 (by decide) ?_
        simp only [if_pos c4] at key
        exact rw_sub rw_lz key
    · have h := bw_if c3 h
      refine rw_case (2 : Int32) (fun c5 => ?_) (fun c5 => ?_)
      · have h := bw_it c5 h
        refine rw_tabK (tgt := 56) dX3_isJoint_1 c5 (by decide) (by decide) rfl (by decide) ?_
        refine rw_iload_n dX3_isJoint_56 rfl rfl ?_
        refine rw_bipush (v := 60) dX3_isJoint_57 (by decide) ?_
        have key : RW w 0 0 0 0 0 cX3_isJoint RX3 2 (some .boolean) (bw_Z w (bw_pz (out) M)) 79 [] [.int (if v1 = (60 : Int32) then (1 : Int32) else (if v1 = (61 : Int32) then (1 : Int32) else (if v1 = (62 : Int32) then (1 : Int32) else (0 : Int32))))] M := by
          subst h
          exact rw_zret dX3_isJoint_79 (by (repeat' split) <;> first | exact bw_n0 | exact bw_n1) ⟨rfl, rfl, (by (repeat' split) <;> first | exact bw_n0 | exact bw_n1)⟩
        refine rw_icmp_eq (tgt := 74) dX3_isJoint_59 (by decide) (fun c6 => ?_) (fun c6 => ?_)
        · refine rw_iconst (v := 1) dX3_isJoint_74 (by decide) ?_
          refine rw_goto (tgt := 79) dX3_isJoint_75 (by decide) ?_
          simp only [if_pos c6] at key
          exact rw_sub rw_lz key
        · refine rw_iload_n dX3_isJoint_62 rfl rfl ?_
          refine rw_bipush (v := 61) dX3_isJoint_63 (by decide) ?_
          refine rw_icmp_eq (tgt := 74) dX3_isJoint_65 (by decide) (fun c7 => ?_) (fun c7 => ?_)
          · refine rw_iconst (v := 1) dX3_isJoint_74 (by decide) ?_
            refine rw_goto (tgt := 79) dX3_isJoint_75 (by decide) ?_
            simp only [if_neg c6, if_pos c7] at key
            exact rw_sub rw_lz key
          · refine rw_iload_n dX3_isJoint_68 rfl rfl ?_
            refine rw_bipush (v := 62) dX3_isJoint_69 (by decide) ?_
            refine rw_icmp_ne (tgt := 78) dX3_isJoint_71 (by decide) (fun c8 => ?_) (fun c8 => ?_)
            · refine rw_iconst (v := 0) dX3_isJoint_78 (by decide) ?_
              simp only [if_neg c6, if_neg c7, if_neg c8] at key
              exact rw_sub rw_lz key
            · refine rw_iconst (v := 1) dX3_isJoint_74 (by decide) ?_
              refine rw_goto (tgt := 79) dX3_isJoint_75 (by decide) ?_
              simp only [if_neg c6, if_neg c7, if_pos c8] at key
              exact rw_sub rw_lz key
      · have h := bw_if c5 h
        refine rw_case (3 : Int32) (fun c9 => ?_) (fun c9 => ?_)
        · have h := bw_it c9 h
          refine rw_tabK (tgt := 80) dX3_isJoint_1 c9 (by decide) (by decide) rfl (by decide) ?_
          refine rw_iload_n dX3_isJoint_80 rfl rfl ?_
          refine rw_bipush (v := 43) dX3_isJoint_81 (by decide) ?_
          have key : RW w 0 0 0 0 0 cX3_isJoint RX3 2 (some .boolean) (bw_Z w (bw_pz (out) M)) 97 [] [.int (if v1 = (43 : Int32) then (1 : Int32) else (if v1 = (45 : Int32) then (1 : Int32) else (0 : Int32)))] M := by
            subst h
            exact rw_zret dX3_isJoint_97 (by (repeat' split) <;> first | exact bw_n0 | exact bw_n1) ⟨rfl, rfl, (by (repeat' split) <;> first | exact bw_n0 | exact bw_n1)⟩
          refine rw_icmp_eq (tgt := 92) dX3_isJoint_83 (by decide) (fun c10 => ?_) (fun c10 => ?_)
          · refine rw_iconst (v := 1) dX3_isJoint_92 (by decide) ?_
            refine rw_goto (tgt := 97) dX3_isJoint_93 (by decide) ?_
            simp only [if_pos c10] at key
            exact rw_sub rw_lz key
          · refine rw_iload_n dX3_isJoint_86 rfl rfl ?_
            refine rw_bipush (v := 45) dX3_isJoint_87 (by decide) ?_
            refine rw_icmp_ne (tgt := 96) dX3_isJoint_89 (by decide) (fun c11 => ?_) (fun c11 => ?_)
            · refine rw_iconst (v := 0) dX3_isJoint_96 (by decide) ?_
              simp only [if_neg c10, if_neg c11] at key
              exact rw_sub rw_lz key
            · refine rw_iconst (v := 1) dX3_isJoint_92 (by decide) ?_
              refine rw_goto (tgt := 97) dX3_isJoint_93 (by decide) ?_
              simp only [if_neg c10, if_pos c11] at key
              exact rw_sub rw_lz key
        · have h := bw_if c9 h
          refine rw_tabD (tgt := 98) dX3_isJoint_1 (by have := lv_neT (a := 0) c1 (by decide); have := lv_neT (a := 1) c3 (by decide); have := lv_neT (a := 2) c5 (by decide); have := lv_neT (a := 3) c9 (by decide); omega) (by decide) ?_
          refine rw_iload_n dX3_isJoint_98 rfl rfl ?_
          refine rw_bipush (v := 42) dX3_isJoint_99 (by decide) ?_
          have key : RW w 0 0 0 0 0 cX3_isJoint RX3 2 (some .boolean) (bw_Z w (bw_pz (out) M)) 115 [] [.int (if v1 = (42 : Int32) then (1 : Int32) else (if v1 = (47 : Int32) then (1 : Int32) else (0 : Int32)))] M := by
            subst h
            exact rw_zret dX3_isJoint_115 (by (repeat' split) <;> first | exact bw_n0 | exact bw_n1) ⟨rfl, rfl, (by (repeat' split) <;> first | exact bw_n0 | exact bw_n1)⟩
          refine rw_icmp_eq (tgt := 110) dX3_isJoint_101 (by decide) (fun c12 => ?_) (fun c12 => ?_)
          · refine rw_iconst (v := 1) dX3_isJoint_110 (by decide) ?_
            refine rw_goto (tgt := 115) dX3_isJoint_111 (by decide) ?_
            simp only [if_pos c12] at key
            exact rw_sub rw_lz key
          · refine rw_iload_n dX3_isJoint_104 rfl rfl ?_
            refine rw_bipush (v := 47) dX3_isJoint_105 (by decide) ?_
            refine rw_icmp_ne (tgt := 114) dX3_isJoint_107 (by decide) (fun c13 => ?_) (fun c13 => ?_)
            · refine rw_iconst (v := 0) dX3_isJoint_114 (by decide) ?_
              simp only [if_neg c12, if_neg c13] at key
              exact rw_sub rw_lz key
            · refine rw_iconst (v := 1) dX3_isJoint_110 (by decide) ?_
              refine rw_goto (tgt := 115) dX3_isJoint_111 (by decide) ?_
              simp only [if_neg c12, if_pos c13] at key
              exact rw_sub rw_lz key
set_option maxRecDepth 20000 in
set_option maxHeartbeats 1000000 in
theorem ct_X4_become {w : WE} {M : Mem} {t : Nat} {v1 : Int32} {v2 : Int32} (ht : bw_iT t) {out : Mem} (h : f_X4_become M t v1 v2 = some out) : Ct w 3 yX4_become cX4_become 3 none [.ref (bw_ad w t), .int v1, .int v2] M (bw_pv out) := by
  refine Ct.of (own := RX4) rfl (by decide) (by intro v hv; simp only [List.mem_cons, List.not_mem_nil, or_false] at hv; rcases hv with rfl | rfl | rfl <;> first | rfl | exact bw_cat_rf _) (Nat.le_of_ble_eq_true rfl) ?_
  unfold f_X4_become at h
  show RW w 3 0 0 0 0 cX4_become RX4 3 none (bw_Z w (bw_pv out)) 0 [(0, .ref (bw_ad w t)), (1, .int v1), (2, .int v2)] [] M
  refine rw_aload_n dX4_become_0 rfl rfl ?_
  refine rw_iload_n dX4_become_1 rfl rfl ?_
  refine rw_puti dX4_become_2 fl_RX4_9 fp_4_0 (shT ht) (klT ht) (by decide) (fun _ => rfl) (fun _ => Nat.le_of_ble_eq_true rfl) ?_
  obtain ⟨M1, hM1, h⟩ := bw_mlE h
  refine rw_m hM1.symm ?_
  refine rw_aload_n dX4_become_5 rfl rfl ?_
  refine rw_iload_n dX4_become_6 rfl rfl ?_
  refine rw_iconst (v := 0) dX4_become_7 (by decide) ?_
  refine rw_bipush (v := 24) dX4_become_8 (by decide) ?_
  refine rw_callN3 dX4_become_10 nx_RX4_19 ms_X9_held (ct_X9_held rfl) (Nat.le_of_ble_eq_true rfl) (Nat.le_of_ble_eq_true rfl) (bw_kki ?_)
  refine rw_puti dX4_become_13 fl_RX4_23 fp_4_1 (shT ht) (klT ht) (by decide) (fun _ => rfl) (fun _ => Nat.le_of_ble_eq_true rfl) ?_
  obtain ⟨M2, hM2, h⟩ := bw_mlE h
  refine rw_m hM2.symm ?_
  refine rw_aload_n dX4_become_16 rfl rfl ?_
  refine rw_get dX4_become_17 fl_RX4_15 (shT ht) (klT ht) rfl ?_
  refine rw_iconst (v := 0) dX4_become_20 (by decide) ?_
  refine rw_fill dX4_become_21 lj_RX4_26 (shT1 ht) (kT1 ht) (by decide) (Nat.le_of_ble_eq_true rfl) (Nat.le_of_ble_eq_true rfl) ?_
  obtain ⟨M3, hM3, h⟩ := bw_mlE h
  refine rw_m hM3.symm ?_
  have h := Option.some.inj h
  subst h
  exact rw_vret dX4_become_24 ⟨rfl, rfl⟩
set_option maxRecDepth 20000 in
set_option maxHeartbeats 1000000 in
theorem ct_X4_becomeAs {w : WE} {M : Mem} {t : Nat} {t1 : Nat} (ht : bw_iT t) (ht1 : bw_iT t1) {out : Mem} (h : f_X4_becomeAs M t t1 = some out) : Ct w 2 yX4_becomeAs cX4_becomeAs 2 none [.ref (bw_ad w t), .ref (bw_ad w t1)] M (bw_pv out) := by
  refine Ct.of (own := RX4) rfl (by decide) (by intro v hv; simp only [List.mem_cons, List.not_mem_nil, or_false] at hv; rcases hv with rfl | rfl <;> first | rfl | exact bw_cat_rf _) (Nat.le_of_ble_eq_true rfl) ?_
  unfold f_X4_becomeAs at h
  show RW w 2 0 0 0 0 cX4_becomeAs RX4 2 none (bw_Z w (bw_pv out)) 0 [(0, .ref (bw_ad w t)), (1, .ref (bw_ad w t1))] [] M
  refine rw_aload_n dX4_becomeAs_0 rfl rfl ?_
  refine rw_aload_n dX4_becomeAs_1 rfl rfl ?_
  refine rw_get dX4_becomeAs_2 fl_RX4_9 (shT ht1) (klT ht1) rfl ?_
  refine rw_puti dX4_becomeAs_5 fl_RX4_9 fp_4_0 (shT ht) (klT ht) (by decide) (fun _ => rfl) (fun _ => Nat.le_of_ble_eq_true rfl) ?_
  obtain ⟨M1, hM1, h⟩ := bw_mlE h
  refine rw_m hM1.symm ?_
  refine rw_aload_n dX4_becomeAs_8 rfl rfl ?_
  refine rw_aload_n dX4_becomeAs_9 rfl rfl ?_
  refine rw_get dX4_becomeAs_10 fl_RX4_23 (shT ht1) (klT ht1) rfl ?_
  refine rw_puti dX4_becomeAs_13 fl_RX4_23 fp_4_1 (shT ht) (klT ht) (by decide) (fun _ => rfl) (fun _ => Nat.le_of_ble_eq_true rfl) ?_
  obtain ⟨M2, hM2, h⟩ := bw_mlE h
  refine rw_m hM2.symm ?_
  refine rw_aload_n dX4_becomeAs_16 rfl rfl ?_
  refine rw_get dX4_becomeAs_17 fl_RX4_15 (shT ht1) (klT ht1) rfl ?_
  refine rw_iconst (v := 0) dX4_becomeAs_20 (by decide) ?_
  refine rw_aload_n dX4_becomeAs_21 rfl rfl ?_
  refine rw_get dX4_becomeAs_22 fl_RX4_15 (shT ht) (klT ht) rfl ?_
  refine rw_iconst (v := 0) dX4_becomeAs_25 (by decide) ?_
  refine rw_bipush (v := 24) dX4_becomeAs_26 (by decide) ?_
  obtain ⟨g3, h⟩ := bw_gd h
  refine rw_acopy dX4_becomeAs_28 lj_RX4_32 ac_w (shT1 ht1) (klT1 ht1) (shT1 ht) (klT1 ht) g3 (Nat.le_of_ble_eq_true rfl) (Nat.le_of_ble_eq_true rfl) ?_
  obtain ⟨M4, hM4, h⟩ := bw_mlE h
  refine rw_m hM4.symm ?_
  have h := Option.some.inj h
  subst h
  exact rw_vret dX4_becomeAs_31 ⟨rfl, rfl⟩
set_option maxRecDepth 20000 in
set_option maxHeartbeats 1000000 in
theorem ct_X4_hasPlaces {w : WE} {M : Mem} {t : Nat} {v1 : Int32} {v2 : Int32} (ht : bw_iT t) {out : Int32} (h : f_X4_hasPlaces M t v1 v2 = out) : Ct w 1 yX4_hasPlaces cX4_hasPlaces 3 (some .boolean) [.ref (bw_ad w t), .int v1, .int v2] M (bw_pz (out) M) := by
  refine Ct.of (own := RX4) rfl (by decide) (by intro v hv; simp only [List.mem_cons, List.not_mem_nil, or_false] at hv; rcases hv with rfl | rfl | rfl <;> first | rfl | exact bw_cat_rf _) (Nat.le_of_ble_eq_true rfl) ?_
  unfold f_X4_hasPlaces at h
  show RW w 1 0 0 0 0 cX4_hasPlaces RX4 3 (some .boolean) (bw_Z w (bw_pz (out) M)) 0 [(0, .ref (bw_ad w t)), (1, .int v1), (2, .int v2)] [] M
  refine rw_iload_n dX4_hasPlaces_0 rfl rfl ?_
  refine rw_iconst (v := 0) dX4_hasPlaces_1 (by decide) ?_
  refine rw_aload_n dX4_hasPlaces_2 rfl rfl ?_
  refine rw_get dX4_hasPlaces_3 fl_RX4_23 (shT ht) (klT ht) rfl ?_
  refine rw_callN3 dX4_hasPlaces_6 nx_RX4_38 ms_X9_isWithin (ct_X9_isWithin rfl) (Nat.le_of_ble_eq_true rfl) (Nat.le_of_ble_eq_true rfl) (bw_kkz (fun z1 => ?_))
  refine rw_if_eq (tgt := 30) dX4_hasPlaces_9 (by decide) (fun c2 => ?_) (fun c2 => ?_)
  · have h := bw_it c2 h
    refine rw_iconst (v := 0) dX4_hasPlaces_30 (by decide) ?_
    subst h
    exact rw_zret dX4_hasPlaces_31 bw_n0 ⟨rfl, rfl, bw_n0⟩
  · have h := bw_if c2 h
    refine rw_iload_n dX4_hasPlaces_12 rfl rfl ?_
    refine rw_iconst (v := 0) dX4_hasPlaces_13 (by decide) ?_
    refine rw_aload_n dX4_hasPlaces_14 rfl rfl ?_
    refine rw_get dX4_hasPlaces_15 fl_RX4_23 (shT ht) (klT ht) rfl ?_
    refine rw_iload_n dX4_hasPlaces_18 rfl rfl ?_
    refine rw_isub dX4_hasPlaces_19 ?_
    refine rw_callN3 dX4_hasPlaces_20 nx_RX4_38 ms_X9_isWithin (ct_X9_isWithin rfl) (Nat.le_of_ble_eq_true rfl) (Nat.le_of_ble_eq_true rfl) (bw_kkz (fun z3 => ?_))
    have key : RW w 1 0 0 0 0 cX4_hasPlaces RX4 3 (some .boolean) (bw_Z w (bw_pz (out) M)) 31 [] [.int (if (f_X9_isWithin v2 (0 : Int32) ((M t 1) - v1)) = 0 then (0 : Int32) else (1 : Int32))] M := by
      subst h
      exact rw_zret dX4_hasPlaces_31 (by (repeat' split) <;> first | exact bw_n0 | exact bw_n1) ⟨rfl, rfl, (by (repeat' split) <;> first | exact bw_n0 | exact bw_n1)⟩
    refine rw_if_eq (tgt := 30) dX4_hasPlaces_23 (by decide) (fun c4 => ?_) (fun c4 => ?_)
    · refine rw_iconst (v := 0) dX4_hasPlaces_30 (by decide) ?_
      simp only [if_pos c4] at key
      exact rw_sub rw_lz key
    · refine rw_iconst (v := 1) dX4_hasPlaces_26 (by decide) ?_
      refine rw_goto (tgt := 31) dX4_hasPlaces_27 (by decide) ?_
      simp only [if_neg c4] at key
      exact rw_sub rw_lz key
set_option maxRecDepth 20000 in
set_option maxHeartbeats 1000000 in
theorem ct_X9_isSize {w : WE} {M : Mem} {v0 : Int32} {out : Int32} (h : f_X9_isSize v0 = out) : Ct w 1 yX9_isSize cX9_isSize 1 (some .boolean) [.int v0] M (bw_pz (out) M) := by
  refine Ct.of (own := RX9) rfl (by decide) (by intro v hv; rw [List.mem_singleton.mp hv]; first | rfl | exact bw_cat_rf _) (Nat.le_of_ble_eq_true rfl) ?_
  unfold f_X9_isSize at h
  show RW w 1 0 0 0 0 cX9_isSize RX9 1 (some .boolean) (bw_Z w (bw_pz (out) M)) 0 [(0, .int v0)] [] M
  refine rw_iload_n dX9_isSize_0 rfl rfl ?_
  refine rw_bipush (v := 101) dX9_isSize_1 (by decide) ?_
  refine rw_sipush (v := 9999) dX9_isSize_3 (by decide) ?_
  refine rw_callS3 dX9_isSize_6 ln_RX9_79 ms_X9_isWithin (ct_X9_isWithin rfl) (Nat.le_of_ble_eq_true rfl) (Nat.le_of_ble_eq_true rfl) (bw_kkz (fun z1 => ?_))
  have key : RW w 1 0 0 0 0 cX9_isSize RX9 1 (some .boolean) (bw_Z w (bw_pz (out) M)) 24 [] [.int (if (f_X9_isWithin v0 (101 : Int32) (9999 : Int32)) = 0 then (0 : Int32) else (if (bw_rem v0 (100 : Int32)) = 0 then (0 : Int32) else (1 : Int32)))] M := by
    subst h
    exact rw_zret dX9_isSize_24 (by (repeat' split) <;> first | exact bw_n0 | exact bw_n1) ⟨rfl, rfl, (by (repeat' split) <;> first | exact bw_n0 | exact bw_n1)⟩
  refine rw_if_eq (tgt := 23) dX9_isSize_9 (by decide) (fun c2 => ?_) (fun c2 => ?_)
  · refine rw_iconst (v := 0) dX9_isSize_23 (by decide) ?_
    simp only [if_pos c2] at key
    exact rw_sub rw_lz key
  · refine rw_iload_n dX9_isSize_12 rfl rfl ?_
    refine rw_bipush (v := 100) dX9_isSize_13 (by decide) ?_
    refine rw_irem dX9_isSize_15 (by decide) ?_
    refine rw_if_eq (tgt := 23) dX9_isSize_16 (by decide) (fun c3 => ?_) (fun c3 => ?_)
    · refine rw_iconst (v := 0) dX9_isSize_23 (by decide) ?_
      simp only [if_neg c2, if_pos c3] at key
      exact rw_sub rw_lz key
    · refine rw_iconst (v := 1) dX9_isSize_19 (by decide) ?_
      refine rw_goto (tgt := 24) dX9_isSize_20 (by decide) ?_
      simp only [if_neg c2, if_neg c3] at key
      exact rw_sub rw_lz key
set_option maxRecDepth 20000 in
set_option maxHeartbeats 1000000 in
theorem th_X4_sizes_L2 {w : WE} {M : Mem} {t : Nat} (ht : bw_iT t) {out : Int32} : ∀ (n : Nat) (v1 : Int32), f_X4_sizes_L2 M t n v1 = some out → RW w 2 0 0 0 0 cX4_sizes RX4 2 (some .int) (bw_Z w (bw_pi (out) M)) 2 [(0, .ref (bw_ad w t)), (1, .int v1)] [] M := by
  intro n
  induction n with
  | zero => intro v1 h; cases h
  | succ n ih =>
    intro v1 h
    rw [f_X4_sizes_L2] at h
    refine rw_iload_n dX4_sizes_2 rfl rfl ?_
    refine rw_aload_n dX4_sizes_3 rfl rfl ?_
    refine rw_get dX4_sizes_4 fl_RX4_23 (shT ht) (klT ht) rfl ?_
    refine rw_icmp_ge (tgt := 30) dX4_sizes_7 (by decide) (fun c1 => ?_) (fun c1 => ?_)
    · have h := bw_it c1 h
      refine rw_aload_n dX4_sizes_30 rfl rfl ?_
      refine rw_get dX4_sizes_31 fl_RX4_23 (shT ht) (klT ht) rfl ?_
      have h := Option.some.inj h
      subst h
      exact rw_iret dX4_sizes_34 ⟨rfl, rfl⟩
    · have h := bw_if c1 h
      refine rw_aload_n dX4_sizes_10 rfl rfl ?_
      refine rw_get dX4_sizes_11 fl_RX4_15 (shT ht) (klT ht) rfl ?_
      refine rw_iload_n dX4_sizes_14 rfl rfl ?_
      obtain ⟨g2, h⟩ := bw_gd h
      refine rw_iald dX4_sizes_15 (shT1 ht) (klT1 ht) (bw_in g2) ?_
      refine rw_callN1 dX4_sizes_16 nx_RX4_42 ms_X9_isSize (ct_X9_isSize rfl) (Nat.le_of_ble_eq_true rfl) (Nat.le_of_ble_eq_true rfl) (bw_kkz (fun z3 => ?_))
      refine rw_if_ne (tgt := 24) dX4_sizes_19 (by decide) (fun c4 => ?_) (fun c4 => ?_)
      · have h := bw_if c4 h
        refine rw_inc dX4_sizes_24 rfl (by decide) ?_
        refine rw_goto (tgt := 2) dX4_sizes_27 (by decide) ?_
        exact rw_sub (rw_lc rfl (rw_lc rfl rw_lz)) (ih (v1 + 1) h)
      · have h := bw_it c4 h
        refine rw_iload_n dX4_sizes_22 rfl rfl ?_
        have h := Option.some.inj h
        subst h
        exact rw_iret dX4_sizes_23 ⟨rfl, rfl⟩
