set_option maxRecDepth 20000 in
set_option maxHeartbeats 1000000 in
theorem ct_X9_isSheet {w : WE} {M : Mem} {v0 : Int32} {out : Int32} (h : f_X9_isSheet v0 = out) : Ct w 1 yX9_isSheet cX9_isSheet 1 (some .boolean) [.int v0] M (bw_pz (out) M) := by
  refine Ct.of (own := RX9) rfl (by decide) (by intro v hv; rw [List.mem_singleton.mp hv]; first | rfl | exact bw_cat_rf _) (Nat.le_of_ble_eq_true rfl) ?_
  unfold f_X9_isSheet at h
  show RW w 1 0 0 0 0 cX9_isSheet RX9 1 (some .boolean) (bw_Z w (bw_pz (out) M)) 0 [(0, .int v0)] [] M
  refine rw_iload_n dX9_isSheet_0 rfl rfl ?_
  refine rw_iconst (v := 0) dX9_isSheet_1 (by decide) ?_
  refine rw_iconst (v := 3) dX9_isSheet_2 (by decide) ?_
  refine rw_callS3 dX9_isSheet_3 ln_RX9_79 ms_X9_isWithin (ct_X9_isWithin rfl) (Nat.le_of_ble_eq_true rfl) (Nat.le_of_ble_eq_true rfl) (bw_kkz (fun z1 => ?_))
  subst h
  exact rw_zret dX9_isSheet_6 z1 ⟨rfl, rfl, z1⟩
set_option maxRecDepth 20000 in
set_option maxHeartbeats 1000000 in
theorem th_X9_sheet_J29 {w : WE} {M : Mem} {v1 : Int32} {v2 : Int32} {s0 : Int32} {out : Int32 × Mem} (h : f_X9_sheet_J29 M v1 v2 s0 = some out) : RW w 4 0 0 0 0 cX9_sheet RX9 5 (some .int) (bw_Z w (bw_pi (out.1) out.2)) 29 [(0, .ref (bw_ad w 0)), (1, .int v1), (2, .int v2)] [.int s0] M := by
  unfold f_X9_sheet_J29 at h
  refine rw_istore dX9_sheet_29 (by decide) ?_
  refine rw_iload dX9_sheet_31 rfl ?_
  refine rw_bipush (v := 24) dX9_sheet_33 (by decide) ?_
  refine rw_icmp_le (tgt := 41) dX9_sheet_35 (by decide) (fun c6 => ?_) (fun c6 => ?_)
  · have h := bw_it c6 h
    refine rw_iload dX9_sheet_41 rfl ?_
    refine rw_if_ge (tgt := 50) dX9_sheet_43 (by decide) (fun c7 => ?_) (fun c7 => ?_)
    · have h := bw_it c7 h
      refine rw_aload_n dX9_sheet_50 rfl rfl ?_
      refine rw_get dX9_sheet_51 fl_RX9_47 (sh_x w) (bw_kl (by decide)) rfl ?_
      refine rw_iload_n dX9_sheet_54 rfl rfl ?_
      obtain ⟨g8, h⟩ := bw_gd h
      refine rw_aaldR dX9_sheet_55 (sh_sheets w) rfl (bw_kl (by decide)) (bw_in g8) ?_
      refine rw_iload_n dX9_sheet_56 rfl rfl ?_
      refine rw_iload dX9_sheet_57 rfl ?_
      obtain ⟨q9, hq9, h⟩ := bw_bd h
      refine rw_callV2 dX9_sheet_59 ln_RX9_347 mv_X4_become (shT (iT_a (bw_lt g8))) (klT (iT_a (bw_lt g8))) (ct_X4_become (iT_a (bw_lt g8)) hq9) (Nat.le_of_ble_eq_true rfl) (Nat.le_of_ble_eq_true rfl) (bw_kkv ?_)
      refine rw_iload dX9_sheet_62 rfl ?_
      have h := Option.some.inj h
      subst h
      exact rw_iret dX9_sheet_64 ⟨rfl, rfl⟩
    · have h := bw_if c7 h
      refine rw_ldcw dX9_sheet_46 cn_RX9_346 ?_
      have h := Option.some.inj h
      subst h
      exact rw_iret dX9_sheet_49 ⟨rfl, rfl⟩
  · have h := bw_if c6 h
    refine rw_ldc dX9_sheet_38 cn_RX9_83 ?_
    have h := Option.some.inj h
    subst h
    exact rw_iret dX9_sheet_40 ⟨rfl, rfl⟩
set_option maxRecDepth 20000 in
set_option maxHeartbeats 1000000 in
theorem ct_X9_sheet {w : WE} {M : Mem} {v1 : Int32} {v2 : Int32} {v3 : Int32} {out : Int32 × Mem} (h : f_X9_sheet M v1 v2 v3 = some out) : Ct w 4 yX9_sheet cX9_sheet 5 (some .int) [.ref (bw_ad w 0), .int v1, .int v2, .int v3] M (bw_pi (out.1) out.2) := by
  refine Ct.of (own := RX9) rfl (by decide) (by intro v hv; simp only [List.mem_cons, List.not_mem_nil, or_false] at hv; rcases hv with rfl | rfl | rfl | rfl <;> first | rfl | exact bw_cat_rf _) (Nat.le_of_ble_eq_true rfl) ?_
  unfold f_X9_sheet at h
  show RW w 4 0 0 0 0 cX9_sheet RX9 5 (some .int) (bw_Z w (bw_pi (out.1) out.2)) 0 [(0, .ref (bw_ad w 0)), (1, .int v1), (2, .int v2), (3, .int v3)] [] M
  refine rw_iload_n dX9_sheet_0 rfl rfl ?_
  refine rw_callS1 dX9_sheet_1 ln_RX9_343 ms_X9_isSheet (ct_X9_isSheet rfl) (Nat.le_of_ble_eq_true rfl) (Nat.le_of_ble_eq_true rfl) (bw_kkz (fun z1 => ?_))
  refine rw_if_eq (tgt := 16) dX9_sheet_4 (by decide) (fun c2 => ?_) (fun c2 => ?_)
  · have h := bw_it c2 h
    refine rw_ldc dX9_sheet_16 cn_RX9_83 ?_
    have h := Option.some.inj h
    subst h
    exact rw_iret dX9_sheet_18 ⟨rfl, rfl⟩
  · have h := bw_if c2 h
    refine rw_iload_n dX9_sheet_7 rfl rfl ?_
    refine rw_iconst (v := -1) dX9_sheet_8 (by decide) ?_
    refine rw_iconst (v := 1) dX9_sheet_9 (by decide) ?_
    refine rw_callS3 dX9_sheet_10 ln_RX9_79 ms_X9_isWithin (ct_X9_isWithin rfl) (Nat.le_of_ble_eq_true rfl) (Nat.le_of_ble_eq_true rfl) (bw_kkz (fun z3 => ?_))
    refine rw_if_ne (tgt := 19) dX9_sheet_13 (by decide) (fun c4 => ?_) (fun c4 => ?_)
    · have h := bw_if c4 h
      refine rw_iload_n dX9_sheet_19 rfl rfl ?_
      refine rw_iconst (v := -1) dX9_sheet_20 (by decide) ?_
      have key : RW w 4 0 0 0 0 cX9_sheet RX9 5 (some .int) (bw_Z w (bw_pi (out.1) out.2)) 29 [(0, .ref (bw_ad w 0)), (1, .int v1), (2, .int v2)] [.int (if v2 = (-1 : Int32) then (0 : Int32) else v3)] M := by
        exact rw_sub (rw_lc rfl (rw_lc rfl (rw_lc rfl rw_lz))) (th_X9_sheet_J29 h)
      refine rw_icmp_ne (tgt := 28) dX9_sheet_21 (by decide) (fun c5 => ?_) (fun c5 => ?_)
      · refine rw_iload_n dX9_sheet_28 rfl rfl ?_
        simp only [if_neg c5] at key
        exact rw_sub (rw_lc rfl (rw_lc rfl (rw_lc rfl rw_lz))) key
      · refine rw_iconst (v := 0) dX9_sheet_24 (by decide) ?_
        refine rw_goto (tgt := 29) dX9_sheet_25 (by decide) ?_
        simp only [if_pos c5] at key
        exact rw_sub (rw_lc rfl (rw_lc rfl (rw_lc rfl rw_lz))) key
    · have h := bw_it c4 h
      refine rw_ldc dX9_sheet_16 cn_RX9_83 ?_
      have h := Option.some.inj h
      subst h
      exact rw_iret dX9_sheet_18 ⟨rfl, rfl⟩
set_option maxRecDepth 20000 in
set_option maxHeartbeats 1000000 in
theorem th_X9_mark_J62 {w : WE} {M : Mem} {t4 : Nat} {v2 : Int32} {v3 : Int32} (ht4 : bw_iT t4) {out : Int32 × Mem} (h : f_X9_mark_J62 M t4 v2 v3 = some out) : RW w 2 0 0 0 0 cX9_mark RX9 5 (some .int) (bw_Z w (bw_pi (out.1) out.2)) 62 [(2, .int v2), (3, .int v3), (4, .ref (bw_ad w t4))] [] M := by
  unfold f_X9_mark_J62 at h
  refine rw_aload dX9_mark_62 rfl ?_
  refine rw_get dX9_mark_64 fl_RX9_350 (shT ht4) (klT ht4) rfl ?_
  refine rw_iconst (v := 1) dX9_mark_67 (by decide) ?_
  refine rw_icmp_ne (tgt := 93) dX9_mark_68 (by decide) (fun c8 => ?_) (fun c8 => ?_)
  · have h := bw_if c8 h
    refine rw_aload dX9_mark_93 rfl ?_
    refine rw_get dX9_mark_95 fl_RX9_360 (shT ht4) (klT ht4) rfl ?_
    refine rw_iload_n dX9_mark_98 rfl rfl ?_
    refine rw_aload dX9_mark_99 rfl ?_
    refine rw_get dX9_mark_101 fl_RX9_350 (shT ht4) (klT ht4) rfl ?_
    refine rw_if_ne (tgt := 112) dX9_mark_104 (by decide) (fun c9 => ?_) (fun c9 => ?_)
    · have h := bw_if c9 h
      refine rw_iload_n dX9_mark_112 rfl rfl ?_
      obtain ⟨g10, h⟩ := bw_gd h
      refine rw_iast dX9_mark_113 (shT1 ht4) (klT1 ht4) (bw_in g10) ?_
      obtain ⟨M11, hM11, h⟩ := bw_mlE h
      refine rw_m hM11.symm ?_
      refine rw_iconst (v := 1) dX9_mark_114 (by decide) ?_
      have h := Option.some.inj h
      subst h
      exact rw_iret dX9_mark_115 ⟨rfl, rfl⟩
    · have h := bw_it c9 h
      refine rw_iload_n dX9_mark_107 rfl rfl ?_
      refine rw_i2s dX9_mark_108 ?_
      refine rw_goto (tgt := 113) dX9_mark_109 (by decide) ?_
      obtain ⟨g12, h⟩ := bw_gd h
      refine rw_iast dX9_mark_113 (shT1 ht4) (klT1 ht4) (bw_in g12) ?_
      obtain ⟨M13, hM13, h⟩ := bw_mlE h
      refine rw_m hM13.symm ?_
      refine rw_iconst (v := 1) dX9_mark_114 (by decide) ?_
      have h := Option.some.inj h
      subst h
      exact rw_iret dX9_mark_115 ⟨rfl, rfl⟩
  · have h := bw_it c8 h
    refine rw_iload_n dX9_mark_71 rfl rfl ?_
    refine rw_ldc dX9_mark_72 cn_RX9_121 ?_
    refine rw_icmp_eq (tgt := 93) dX9_mark_74 (by decide) (fun c14 => ?_) (fun c14 => ?_)
    · have h := bw_it c14 h
      refine rw_aload dX9_mark_93 rfl ?_
      refine rw_get dX9_mark_95 fl_RX9_360 (shT ht4) (klT ht4) rfl ?_
      refine rw_iload_n dX9_mark_98 rfl rfl ?_
      refine rw_aload dX9_mark_99 rfl ?_
      refine rw_get dX9_mark_101 fl_RX9_350 (shT ht4) (klT ht4) rfl ?_
      refine rw_if_ne (tgt := 112) dX9_mark_104 (by decide) (fun c15 => ?_) (fun c15 => ?_)
      · have h := bw_if c15 h
        refine rw_iload_n dX9_mark_112 rfl rfl ?_
        obtain ⟨g16, h⟩ := bw_gd h
        refine rw_iast dX9_mark_113 (shT1 ht4) (klT1 ht4) (bw_in g16) ?_
        obtain ⟨M17, hM17, h⟩ := bw_mlE h
        refine rw_m hM17.symm ?_
        refine rw_iconst (v := 1) dX9_mark_114 (by decide) ?_
        have h := Option.some.inj h
        subst h
        exact rw_iret dX9_mark_115 ⟨rfl, rfl⟩
      · have h := bw_it c15 h
        refine rw_iload_n dX9_mark_107 rfl rfl ?_
        refine rw_i2s dX9_mark_108 ?_
        refine rw_goto (tgt := 113) dX9_mark_109 (by decide) ?_
        obtain ⟨g18, h⟩ := bw_gd h
        refine rw_iast dX9_mark_113 (shT1 ht4) (klT1 ht4) (bw_in g18) ?_
        obtain ⟨M19, hM19, h⟩ := bw_mlE h
        refine rw_m hM19.symm ?_
        refine rw_iconst (v := 1) dX9_mark_114 (by decide) ?_
        have h := Option.some.inj h
        subst h
        exact rw_iret dX9_mark_115 ⟨rfl, rfl⟩
    · have h := bw_if c14 h
      refine rw_iload_n dX9_mark_77 rfl rfl ?_
      refine rw_ldcw dX9_mark_78 cn_RX9_358 ?_
      refine rw_ldcw dX9_mark_81 cn_RX9_359 ?_
      refine rw_callS3 dX9_mark_84 ln_RX9_79 ms_X9_isWithin (ct_X9_isWithin rfl) (Nat.le_of_ble_eq_true rfl) (Nat.le_of_ble_eq_true rfl) (bw_kkz (fun z20 => ?_))
      refine rw_if_ne (tgt := 93) dX9_mark_87 (by decide) (fun c21 => ?_) (fun c21 => ?_)
      · have h := bw_if c21 h
        refine rw_aload dX9_mark_93 rfl ?_
        refine rw_get dX9_mark_95 fl_RX9_360 (shT ht4) (klT ht4) rfl ?_
        refine rw_iload_n dX9_mark_98 rfl rfl ?_
        refine rw_aload dX9_mark_99 rfl ?_
        refine rw_get dX9_mark_101 fl_RX9_350 (shT ht4) (klT ht4) rfl ?_
        refine rw_if_ne (tgt := 112) dX9_mark_104 (by decide) (fun c22 => ?_) (fun c22 => ?_)
        · have h := bw_if c22 h
          refine rw_iload_n dX9_mark_112 rfl rfl ?_
          obtain ⟨g23, h⟩ := bw_gd h
          refine rw_iast dX9_mark_113 (shT1 ht4) (klT1 ht4) (bw_in g23) ?_
          obtain ⟨M24, hM24, h⟩ := bw_mlE h
          refine rw_m hM24.symm ?_
          refine rw_iconst (v := 1) dX9_mark_114 (by decide) ?_
          have h := Option.some.inj h
          subst h
          exact rw_iret dX9_mark_115 ⟨rfl, rfl⟩
        · have h := bw_it c22 h
          refine rw_iload_n dX9_mark_107 rfl rfl ?_
          refine rw_i2s dX9_mark_108 ?_
          refine rw_goto (tgt := 113) dX9_mark_109 (by decide) ?_
          obtain ⟨g25, h⟩ := bw_gd h
          refine rw_iast dX9_mark_113 (shT1 ht4) (klT1 ht4) (bw_in g25) ?_
          obtain ⟨M26, hM26, h⟩ := bw_mlE h
          refine rw_m hM26.symm ?_
          refine rw_iconst (v := 1) dX9_mark_114 (by decide) ?_
          have h := Option.some.inj h
          subst h
          exact rw_iret dX9_mark_115 ⟨rfl, rfl⟩
      · have h := bw_it c21 h
        refine rw_ldc dX9_mark_90 cn_RX9_83 ?_
        have h := Option.some.inj h
        subst h
        exact rw_iret dX9_mark_92 ⟨rfl, rfl⟩
set_option maxRecDepth 20000 in
set_option maxHeartbeats 1000000 in
theorem ct_X9_mark {w : WE} {M : Mem} {v1 : Int32} {v2 : Int32} {v3 : Int32} {out : Int32 × Mem} (h : f_X9_mark M v1 v2 v3 = some out) : Ct w 2 yX9_mark cX9_mark 5 (some .int) [.ref (bw_ad w 0), .int v1, .int v2, .int v3] M (bw_pi (out.1) out.2) := by
  refine Ct.of (own := RX9) rfl (by decide) (by intro v hv; simp only [List.mem_cons, List.not_mem_nil, or_false] at hv; rcases hv with rfl | rfl | rfl | rfl <;> first | rfl | exact bw_cat_rf _) (Nat.le_of_ble_eq_true rfl) ?_
  unfold f_X9_mark at h
  show RW w 2 0 0 0 0 cX9_mark RX9 5 (some .int) (bw_Z w (bw_pi (out.1) out.2)) 0 [(0, .ref (bw_ad w 0)), (1, .int v1), (2, .int v2), (3, .int v3)] [] M
  refine rw_iload_n dX9_mark_0 rfl rfl ?_
  refine rw_callS1 dX9_mark_1 ln_RX9_343 ms_X9_isSheet (ct_X9_isSheet rfl) (Nat.le_of_ble_eq_true rfl) (Nat.le_of_ble_eq_true rfl) (bw_kkz (fun z1 => ?_))
  refine rw_if_ne (tgt := 10) dX9_mark_4 (by decide) (fun c2 => ?_) (fun c2 => ?_)
  · have h := bw_if c2 h
    refine rw_aload_n dX9_mark_10 rfl rfl ?_
    refine rw_get dX9_mark_11 fl_RX9_47 (sh_x w) (bw_kl (by decide)) rfl ?_
    refine rw_iload_n dX9_mark_14 rfl rfl ?_
    obtain ⟨g3, h⟩ := bw_gd h
    refine rw_aaldR dX9_mark_15 (sh_sheets w) rfl (bw_kl (by decide)) (bw_in g3) ?_
    refine rw_astore dX9_mark_16 (by decide) ?_
    refine rw_aload dX9_mark_18 rfl ?_
    refine rw_get dX9_mark_20 fl_RX9_350 (shT (iT_a (bw_lt g3))) (klT (iT_a (bw_lt g3))) rfl ?_
    refine rw_iconst (v := -1) dX9_mark_23 (by decide) ?_
    refine rw_icmp_ne (tgt := 31) dX9_mark_24 (by decide) (fun c4 => ?_) (fun c4 => ?_)
    · have h := bw_if c4 h
      refine rw_aload dX9_mark_31 rfl ?_
      refine rw_iload_n dX9_mark_33 rfl rfl ?_
      refine rw_iconst (v := 1) dX9_mark_34 (by decide) ?_
      refine rw_callV2 dX9_mark_35 ln_RX9_354 mv_X4_hasPlaces (shT (iT_a (bw_lt g3))) (klT (iT_a (bw_lt g3))) (ct_X4_hasPlaces (iT_a (bw_lt g3)) rfl) (Nat.le_of_ble_eq_true rfl) (Nat.le_of_ble_eq_true rfl) (bw_kkz (fun z5 => ?_))
      refine rw_if_ne (tgt := 45) dX9_mark_38 (by decide) (fun c6 => ?_) (fun c6 => ?_)
      · have h := bw_if c6 h
        refine rw_aload dX9_mark_45 rfl ?_
        refine rw_get dX9_mark_47 fl_RX9_350 (shT (iT_a (bw_lt g3))) (klT (iT_a (bw_lt g3))) rfl ?_
        refine rw_if_ne (tgt := 62) dX9_mark_50 (by decide) (fun c7 => ?_) (fun c7 => ?_)
        · have h := bw_if c7 h
          exact rw_sub (rw_lc rfl (rw_lc rfl (rw_lc rfl rw_lz))) (th_X9_mark_J62 (iT_a (bw_lt g3)) h)
        · have h := bw_it c7 h
          refine rw_iload_n dX9_mark_53 rfl rfl ?_
          refine rw_ldc dX9_mark_54 cn_RX9_121 ?_
          refine rw_icmp_ne (tgt := 62) dX9_mark_56 (by decide) (fun c27 => ?_) (fun c27 => ?_)
          · have h := bw_if c27 h
            exact rw_sub (rw_lc rfl (rw_lc rfl (rw_lc rfl rw_lz))) (th_X9_mark_J62 (iT_a (bw_lt g3)) h)
          · have h := bw_it c27 h
            refine rw_ldc dX9_mark_59 cn_RX9_193 ?_
            have h := Option.some.inj h
            subst h
            exact rw_iret dX9_mark_61 ⟨rfl, rfl⟩
      · have h := bw_it c6 h
        refine rw_ldcw dX9_mark_41 cn_RX9_357 ?_
        have h := Option.some.inj h
        subst h
        exact rw_iret dX9_mark_44 ⟨rfl, rfl⟩
    · have h := bw_it c4 h
      refine rw_ldcw dX9_mark_27 cn_RX9_353 ?_
      have h := Option.some.inj h
      subst h
      exact rw_iret dX9_mark_30 ⟨rfl, rfl⟩
  · have h := bw_it c2 h
    refine rw_ldc dX9_mark_7 cn_RX9_83 ?_
    have h := Option.some.inj h
    subst h
    exact rw_iret dX9_mark_9 ⟨rfl, rfl⟩
set_option maxRecDepth 20000 in
set_option maxHeartbeats 1000000 in
theorem th_X9_pour_L66 {w : WE} {t3 : Nat} {v2 : Int32} {v4 : Int32} (ht3 : bw_iT t3) {out : Int32 × Mem} : ∀ (n : Nat) (v5 : Int32) (M : Mem), f_X9_pour_L66 t3 v2 v4 n v5 M = some out → RW w 3 0 0 0 0 cX9_pour RX9 6 (some .int) (bw_Z w (bw_pi (out.1) out.2)) 66 [(0, .ref (bw_ad w 0)), (2, .int v2), (3, .ref (bw_ad w t3)), (4, .int v4), (5, .int v5)] [] M := by
  intro n
  induction n with
  | zero => intro v5 M h; cases h
  | succ n ih =>
    intro v5 M h
    rw [f_X9_pour_L66] at h
    refine rw_iload dX9_pour_66 rfl ?_
    refine rw_iload dX9_pour_68 rfl ?_
    refine rw_icmp_ge (tgt := 108) dX9_pour_70 (by decide) (fun c9 => ?_) (fun c9 => ?_)
    · have h := bw_it c9 h
      refine rw_iload dX9_pour_108 rfl ?_
      have h := Option.some.inj h
      subst h
      exact rw_iret dX9_pour_110 ⟨rfl, rfl⟩
    · have h := bw_if c9 h
      refine rw_aload_n dX9_pour_73 rfl rfl ?_
      refine rw_get dX9_pour_74 fl_RX9_10 (sh_x w) (bw_kl (by decide)) rfl ?_
      refine rw_aload_n dX9_pour_77 rfl rfl ?_
      refine rw_get dX9_pour_78 fl_RX9_360 (shT ht3) (klT ht3) rfl ?_
      refine rw_iload dX9_pour_81 rfl ?_
      obtain ⟨g10, h⟩ := bw_gd h
      refine rw_iald dX9_pour_83 (shT1 ht3) (klT1 ht3) (bw_in g10) ?_
      refine rw_bipush (v := 100) dX9_pour_84 (by decide) ?_
      refine rw_idiv dX9_pour_86 (by decide) ?_
      refine rw_aload_n dX9_pour_87 rfl rfl ?_
      refine rw_get dX9_pour_88 fl_RX9_360 (shT ht3) (klT ht3) rfl ?_
      refine rw_iload dX9_pour_91 rfl ?_
      refine rw_iald dX9_pour_93 (shT1 ht3) (klT1 ht3) (bw_in g10) ?_
      refine rw_bipush (v := 100) dX9_pour_94 (by decide) ?_
      refine rw_irem dX9_pour_96 (by decide) ?_
      refine rw_iload_n dX9_pour_97 rfl rfl ?_
      obtain ⟨q11, hq11, h⟩ := bw_bd h
      refine rw_callV3 dX9_pour_98 ln_RX9_89 mv_X6_addBook (sh_now w) (bw_kl (by decide)) (ct_X6_addBook (by decide) hq11) (Nat.le_of_ble_eq_true rfl) (Nat.le_of_ble_eq_true rfl) (bw_kki ?_)
      refine rw_pop dX9_pour_101 rfl ?_
      refine rw_inc dX9_pour_102 rfl (by decide) ?_
      refine rw_goto (tgt := 66) dX9_pour_105 (by decide) ?_
      exact rw_sub (rw_lc rfl (rw_lc rfl (rw_lc rfl (rw_lc rfl (rw_lc rfl rw_lz))))) (ih (v5 + 1) q11.2 h)
set_option maxRecDepth 20000 in
set_option maxHeartbeats 1000000 in
theorem ct_X9_pour {w : WE} {M : Mem} {v1 : Int32} {v2 : Int32} {out : Int32 × Mem} (h : f_X9_pour M v1 v2 = some out) : Ct w 3 yX9_pour cX9_pour 6 (some .int) [.ref (bw_ad w 0), .int v1, .int v2] M (bw_pi (out.1) out.2) := by
  refine Ct.of (own := RX9) rfl (by decide) (by intro v hv; simp only [List.mem_cons, List.not_mem_nil, or_false] at hv; rcases hv with rfl | rfl | rfl <;> first | rfl | exact bw_cat_rf _) (Nat.le_of_ble_eq_true rfl) ?_
  unfold f_X9_pour at h
  show RW w 3 0 0 0 0 cX9_pour RX9 6 (some .int) (bw_Z w (bw_pi (out.1) out.2)) 0 [(0, .ref (bw_ad w 0)), (1, .int v1), (2, .int v2)] [] M
  refine rw_iload_n dX9_pour_0 rfl rfl ?_
  refine rw_callS1 dX9_pour_1 ln_RX9_343 ms_X9_isSheet (ct_X9_isSheet rfl) (Nat.le_of_ble_eq_true rfl) (Nat.le_of_ble_eq_true rfl) (bw_kkz (fun z1 => ?_))
  refine rw_if_eq (tgt := 17) dX9_pour_4 (by decide) (fun c2 => ?_) (fun c2 => ?_)
  · have h := bw_it c2 h
    refine rw_ldc dX9_pour_17 cn_RX9_83 ?_
    have h := Option.some.inj h
    subst h
    exact rw_iret dX9_pour_19 ⟨rfl, rfl⟩
  · have h := bw_if c2 h
    refine rw_iload_n dX9_pour_7 rfl rfl ?_
    refine rw_iconst (v := 0) dX9_pour_8 (by decide) ?_
    refine rw_bipush (v := 7) dX9_pour_9 (by decide) ?_
    refine rw_callS3 dX9_pour_11 ln_RX9_79 ms_X9_isWithin (ct_X9_isWithin rfl) (Nat.le_of_ble_eq_true rfl) (Nat.le_of_ble_eq_true rfl) (bw_kkz (fun z3 => ?_))
    refine rw_if_ne (tgt := 20) dX9_pour_14 (by decide) (fun c4 => ?_) (fun c4 => ?_)
    · have h := bw_if c4 h
      refine rw_aload_n dX9_pour_20 rfl rfl ?_
      refine rw_get dX9_pour_21 fl_RX9_47 (sh_x w) (bw_kl (by decide)) rfl ?_
      refine rw_iload_n dX9_pour_24 rfl rfl ?_
      obtain ⟨g5, h⟩ := bw_gd h
      refine rw_aaldR dX9_pour_25 (sh_sheets w) rfl (bw_kl (by decide)) (bw_in g5) ?_
      refine rw_astore_n dX9_pour_26 rfl (by decide) ?_
      refine rw_aload_n dX9_pour_27 rfl rfl ?_
      refine rw_get dX9_pour_28 fl_RX9_350 (shT (iT_a (bw_lt g5))) (klT (iT_a (bw_lt g5))) rfl ?_
      refine rw_iconst (v := -1) dX9_pour_31 (by decide) ?_
      refine rw_icmp_ne (tgt := 39) dX9_pour_32 (by decide) (fun c6 => ?_) (fun c6 => ?_)
      · have h := bw_if c6 h
        refine rw_aload_n dX9_pour_39 rfl rfl ?_
        obtain ⟨q7, hq7, h⟩ := bw_bd h
        refine rw_callV0 dX9_pour_40 ln_RX9_363 mv_X4_sizes (shT (iT_a (bw_lt g5))) (klT (iT_a (bw_lt g5))) (ct_X4_sizes (iT_a (bw_lt g5)) hq7) (Nat.le_of_ble_eq_true rfl) (Nat.le_of_ble_eq_true rfl) (bw_kki ?_)
        refine rw_istore dX9_pour_43 (by decide) ?_
        refine rw_iload dX9_pour_45 rfl ?_
        refine rw_bipush (v := 24) dX9_pour_47 (by decide) ?_
        refine rw_aload_n dX9_pour_49 rfl rfl ?_
        refine rw_get dX9_pour_50 fl_RX9_10 (sh_x w) (bw_kl (by decide)) rfl ?_
        refine rw_get dX9_pour_53 fl_RX9_84 (sh_now w) (bw_kl (by decide)) rfl ?_
        refine rw_isub dX9_pour_56 ?_
        refine rw_icmp_le (tgt := 63) dX9_pour_57 (by decide) (fun c8 => ?_) (fun c8 => ?_)
        · have h := bw_it c8 h
          refine rw_iconst (v := 0) dX9_pour_63 (by decide) ?_
          refine rw_istore dX9_pour_64 (by decide) ?_
          exact rw_sub (rw_lc rfl (rw_lc rfl (rw_lc rfl (rw_lc rfl (rw_lc rfl rw_lz))))) (th_X9_pour_L66 (iT_a (bw_lt g5)) bw_fu (0 : Int32) M h)
        · have h := bw_if c8 h
          refine rw_ldc dX9_pour_60 cn_RX9_88 ?_
          have h := Option.some.inj h
          subst h
          exact rw_iret dX9_pour_62 ⟨rfl, rfl⟩
      · have h := bw_it c6 h
        refine rw_ldcw dX9_pour_35 cn_RX9_353 ?_
        have h := Option.some.inj h
        subst h
        exact rw_iret dX9_pour_38 ⟨rfl, rfl⟩
    · have h := bw_it c4 h
      refine rw_ldc dX9_pour_17 cn_RX9_83 ?_
      have h := Option.some.inj h
      subst h
      exact rw_iret dX9_pour_19 ⟨rfl, rfl⟩
set_option maxRecDepth 20000 in
set_option maxHeartbeats 1000000 in
theorem ct_X9_copy {w : WE} {M : Mem} {v1 : Int32} {v2 : Int32} {v3 : Int32} {v4 : Int32} {v5 : Int32} {out : Int32 × Mem} (h : f_X9_copy M v1 v2 v3 v4 v5 = some out) : Ct w 2 yX9_copy cX9_copy 8 (some .int) [.ref (bw_ad w 0), .int v1, .int v2, .int v3, .int v4, .int v5] M (bw_pi (out.1) out.2) := by
  refine Ct.of (own := RX9) rfl (by decide) (by intro v hv; simp only [List.mem_cons, List.not_mem_nil, or_false] at hv; rcases hv with rfl | rfl | rfl | rfl | rfl | rfl <;> first | rfl | exact bw_cat_rf _) (Nat.le_of_ble_eq_true rfl) ?_
  unfold f_X9_copy at h
  show RW w 2 0 0 0 0 cX9_copy RX9 8 (some .int) (bw_Z w (bw_pi (out.1) out.2)) 0 [(0, .ref (bw_ad w 0)), (1, .int v1), (2, .int v2), (3, .int v3), (4, .int v4), (5, .int v5)] [] M
  refine rw_iload_n dX9_copy_0 rfl rfl ?_
  refine rw_callS1 dX9_copy_1 ln_RX9_343 ms_X9_isSheet (ct_X9_isSheet rfl) (Nat.le_of_ble_eq_true rfl) (Nat.le_of_ble_eq_true rfl) (bw_kkz (fun z1 => ?_))
  refine rw_if_eq (tgt := 14) dX9_copy_4 (by decide) (fun c2 => ?_) (fun c2 => ?_)
  · have h := bw_it c2 h
    refine rw_ldc dX9_copy_14 cn_RX9_83 ?_
    have h := Option.some.inj h
    subst h
    exact rw_iret dX9_copy_16 ⟨rfl, rfl⟩
  · have h := bw_if c2 h
    refine rw_iload_n dX9_copy_7 rfl rfl ?_
    refine rw_callS1 dX9_copy_8 ln_RX9_343 ms_X9_isSheet (ct_X9_isSheet rfl) (Nat.le_of_ble_eq_true rfl) (Nat.le_of_ble_eq_true rfl) (bw_kkz (fun z3 => ?_))
    refine rw_if_ne (tgt := 17) dX9_copy_11 (by decide) (fun c4 => ?_) (fun c4 => ?_)
    · have h := bw_if c4 h
      refine rw_aload_n dX9_copy_17 rfl rfl ?_
      refine rw_get dX9_copy_18 fl_RX9_47 (sh_x w) (bw_kl (by decide)) rfl ?_
      refine rw_iload_n dX9_copy_21 rfl rfl ?_
      obtain ⟨g5, h⟩ := bw_gd h
      refine rw_aaldR dX9_copy_22 (sh_sheets w) rfl (bw_kl (by decide)) (bw_in g5) ?_
      refine rw_astore dX9_copy_23 (by decide) ?_
      refine rw_aload_n dX9_copy_25 rfl rfl ?_
      refine rw_get dX9_copy_26 fl_RX9_47 (sh_x w) (bw_kl (by decide)) rfl ?_
      refine rw_iload_n dX9_copy_29 rfl rfl ?_
      obtain ⟨g6, h⟩ := bw_gd h
      refine rw_aaldR dX9_copy_30 (sh_sheets w) rfl (bw_kl (by decide)) (bw_in g6) ?_
      refine rw_astore dX9_copy_31 (by decide) ?_
      refine rw_aload dX9_copy_33 rfl ?_
      refine rw_get dX9_copy_35 fl_RX9_350 (shT (iT_a (bw_lt g5))) (klT (iT_a (bw_lt g5))) rfl ?_
      refine rw_iconst (v := -1) dX9_copy_38 (by decide) ?_
      refine rw_icmp_eq (tgt := 51) dX9_copy_39 (by decide) (fun c7 => ?_) (fun c7 => ?_)
      · have h := bw_it c7 h
        refine rw_ldcw dX9_copy_51 cn_RX9_353 ?_
        have h := Option.some.inj h
        subst h
        exact rw_iret dX9_copy_54 ⟨rfl, rfl⟩
      · have h := bw_if c7 h
        refine rw_aload dX9_copy_42 rfl ?_
        refine rw_get dX9_copy_44 fl_RX9_350 (shT (iT_a (bw_lt g6))) (klT (iT_a (bw_lt g6))) rfl ?_
        refine rw_iconst (v := -1) dX9_copy_47 (by decide) ?_
        refine rw_icmp_ne (tgt := 55) dX9_copy_48 (by decide) (fun c8 => ?_) (fun c8 => ?_)
        · have h := bw_if c8 h
          refine rw_aload dX9_copy_55 rfl ?_
          refine rw_get dX9_copy_57 fl_RX9_350 (shT (iT_a (bw_lt g5))) (klT (iT_a (bw_lt g5))) rfl ?_
          refine rw_aload dX9_copy_60 rfl ?_
          refine rw_get dX9_copy_62 fl_RX9_350 (shT (iT_a (bw_lt g6))) (klT (iT_a (bw_lt g6))) rfl ?_
          refine rw_icmp_eq (tgt := 71) dX9_copy_65 (by decide) (fun c9 => ?_) (fun c9 => ?_)
          · have h := bw_it c9 h
            refine rw_aload dX9_copy_71 rfl ?_
            refine rw_iload_n dX9_copy_73 rfl rfl ?_
            refine rw_iload dX9_copy_74 rfl ?_
            refine rw_callV2 dX9_copy_76 ln_RX9_354 mv_X4_hasPlaces (shT (iT_a (bw_lt g5))) (klT (iT_a (bw_lt g5))) (ct_X4_hasPlaces (iT_a (bw_lt g5)) rfl) (Nat.le_of_ble_eq_true rfl) (Nat.le_of_ble_eq_true rfl) (bw_kkz (fun z10 => ?_))
            refine rw_if_eq (tgt := 94) dX9_copy_79 (by decide) (fun c11 => ?_) (fun c11 => ?_)
            · have h := bw_it c11 h
              refine rw_ldcw dX9_copy_94 cn_RX9_357 ?_
              have h := Option.some.inj h
              subst h
              exact rw_iret dX9_copy_97 ⟨rfl, rfl⟩
            · have h := bw_if c11 h
              refine rw_aload dX9_copy_82 rfl ?_
              refine rw_iload dX9_copy_84 rfl ?_
              refine rw_iload dX9_copy_86 rfl ?_
              refine rw_callV2 dX9_copy_88 ln_RX9_354 mv_X4_hasPlaces (shT (iT_a (bw_lt g6))) (klT (iT_a (bw_lt g6))) (ct_X4_hasPlaces (iT_a (bw_lt g6)) rfl) (Nat.le_of_ble_eq_true rfl) (Nat.le_of_ble_eq_true rfl) (bw_kkz (fun z12 => ?_))
              refine rw_if_ne (tgt := 98) dX9_copy_91 (by decide) (fun c13 => ?_) (fun c13 => ?_)
              · have h := bw_if c13 h
                refine rw_aload dX9_copy_98 rfl ?_
                refine rw_get dX9_copy_100 fl_RX9_360 (shT (iT_a (bw_lt g5))) (klT (iT_a (bw_lt g5))) rfl ?_
                refine rw_iload_n dX9_copy_103 rfl rfl ?_
                refine rw_aload dX9_copy_104 rfl ?_
                refine rw_get dX9_copy_106 fl_RX9_360 (shT (iT_a (bw_lt g6))) (klT (iT_a (bw_lt g6))) rfl ?_
                refine rw_iload dX9_copy_109 rfl ?_
                refine rw_iload dX9_copy_111 rfl ?_
                obtain ⟨g14, h⟩ := bw_gd h
                refine rw_acopy dX9_copy_113 lj_RX9_259 ac_w (shT1 (iT_a (bw_lt g5))) (klT1 (iT_a (bw_lt g5))) (shT1 (iT_a (bw_lt g6))) (klT1 (iT_a (bw_lt g6))) g14 (Nat.le_of_ble_eq_true rfl) (Nat.le_of_ble_eq_true rfl) ?_
                obtain ⟨M15, hM15, h⟩ := bw_mlE h
                refine rw_m hM15.symm ?_
                refine rw_iload dX9_copy_116 rfl ?_
                have h := Option.some.inj h
                subst h
                exact rw_iret dX9_copy_118 ⟨rfl, rfl⟩
              · have h := bw_it c13 h
                refine rw_ldcw dX9_copy_94 cn_RX9_357 ?_
                have h := Option.some.inj h
                subst h
                exact rw_iret dX9_copy_97 ⟨rfl, rfl⟩
          · have h := bw_if c9 h
            refine rw_ldc dX9_copy_68 cn_RX9_193 ?_
            have h := Option.some.inj h
            subst h
            exact rw_iret dX9_copy_70 ⟨rfl, rfl⟩
        · have h := bw_it c8 h
          refine rw_ldcw dX9_copy_51 cn_RX9_353 ?_
          have h := Option.some.inj h
          subst h
          exact rw_iret dX9_copy_54 ⟨rfl, rfl⟩
    · have h := bw_it c4 h
      refine rw_ldc dX9_copy_14 cn_RX9_83 ?_
      have h := Option.some.inj h
      subst h
      exact rw_iret dX9_copy_16 ⟨rfl, rfl⟩
set_option maxRecDepth 20000 in
set_option maxHeartbeats 1000000 in
theorem ct_X9_isSlot {w : WE} {M : Mem} {v0 : Int32} {out : Int32} (h : f_X9_isSlot v0 = out) : Ct w 1 yX9_isSlot cX9_isSlot 1 (some .boolean) [.int v0] M (bw_pz (out) M) := by
  refine Ct.of (own := RX9) rfl (by decide) (by intro v hv; rw [List.mem_singleton.mp hv]; first | rfl | exact bw_cat_rf _) (Nat.le_of_ble_eq_true rfl) ?_
  unfold f_X9_isSlot at h
  show RW w 1 0 0 0 0 cX9_isSlot RX9 1 (some .boolean) (bw_Z w (bw_pz (out) M)) 0 [(0, .int v0)] [] M
  refine rw_iload_n dX9_isSlot_0 rfl rfl ?_
  refine rw_iconst (v := 0) dX9_isSlot_1 (by decide) ?_
  refine rw_iconst (v := 4) dX9_isSlot_2 (by decide) ?_
  refine rw_callS3 dX9_isSlot_3 ln_RX9_79 ms_X9_isWithin (ct_X9_isWithin rfl) (Nat.le_of_ble_eq_true rfl) (Nat.le_of_ble_eq_true rfl) (bw_kkz (fun z1 => ?_))
  subst h
  exact rw_zret dX9_isSlot_6 z1 ⟨rfl, rfl, z1⟩
set_option maxRecDepth 20000 in
set_option maxHeartbeats 1000000 in
theorem th_X9_lay_J72 {w : WE} {M : Mem} {v1 : Int32} {v2 : Int32} {v3 : Int32} {out : Int32 × Mem} (h : f_X9_lay_J72 M v1 v2 v3 = some out) : RW w 3 0 0 0 0 cX9_lay RX9 6 (some .int) (bw_Z w (bw_pi (out.1) out.2)) 72 [(0, .ref (bw_ad w 0)), (1, .int v1), (2, .int v2), (3, .int v3)] [] M := by
  unfold f_X9_lay_J72 at h
  refine rw_aload_n dX9_lay_72 rfl rfl ?_
  refine rw_get dX9_lay_73 fl_RX9_53 (sh_x w) (bw_kl (by decide)) rfl ?_
  refine rw_iload_n dX9_lay_76 rfl rfl ?_
  obtain ⟨g8, h⟩ := bw_gd h
  refine rw_aaldR dX9_lay_77 (sh_slots w) rfl (bw_kl (by decide)) (bw_in g8) ?_
  refine rw_astore dX9_lay_78 (by decide) ?_
  refine rw_aload dX9_lay_80 rfl ?_
  refine rw_get dX9_lay_82 fl_RX9_369 (shU (iU_a (bw_lt g8))) (klU (iU_a (bw_lt g8))) rfl ?_
  obtain ⟨x9, hx9, h⟩ := bw_mlE h
  refine rw_ti hx9 ?_
  refine rw_istore dX9_lay_85 (by decide) ?_
  refine rw_aload dX9_lay_87 rfl ?_
  refine rw_iload_n dX9_lay_89 rfl rfl ?_
  refine rw_puti dX9_lay_90 fl_RX9_369 fp_5_0 (shU (iU_a (bw_lt g8))) (klU (iU_a (bw_lt g8))) (by decide) (fun _ => rfl) (fun _ => Nat.le_of_ble_eq_true rfl) ?_
  obtain ⟨M10, hM10, h⟩ := bw_mlE h
  refine rw_m hM10.symm ?_
  refine rw_iload_n dX9_lay_93 rfl rfl ?_
  refine rw_iconst (v := 1) dX9_lay_94 (by decide) ?_
  refine rw_icmp_ne (tgt := 118) dX9_lay_95 (by decide) (fun c11 => ?_) (fun c11 => ?_)
  · have h := bw_if c11 h
    refine rw_iload_n dX9_lay_118 rfl rfl ?_
    refine rw_iconst (v := 2) dX9_lay_119 (by decide) ?_
    refine rw_icmp_ne (tgt := 140) dX9_lay_120 (by decide) (fun c12 => ?_) (fun c12 => ?_)
    · have h := bw_if c12 h
      refine rw_iload_n dX9_lay_140 rfl rfl ?_
      refine rw_iconst (v := 3) dX9_lay_141 (by decide) ?_
      refine rw_icmp_ne (tgt := 151) dX9_lay_142 (by decide) (fun c13 => ?_) (fun c13 => ?_)
      · have h := bw_if c13 h
        refine rw_iload dX9_lay_151 rfl ?_
        have h := Option.some.inj h
        subst h
        exact rw_iret dX9_lay_153 ⟨rfl, rfl⟩
      · have h := bw_it c13 h
        refine rw_aload dX9_lay_145 rfl ?_
        refine rw_iload_n dX9_lay_147 rfl rfl ?_
        refine rw_puti dX9_lay_148 fl_RX9_387 fp_5_3 (shU (iU_a (bw_lt g8))) (klU (iU_a (bw_lt g8))) (by decide) (fun _ => rfl) (fun _ => Nat.le_of_ble_eq_true rfl) ?_
        obtain ⟨M14, hM14, h⟩ := bw_mlE h
        refine rw_m hM14.symm ?_
        refine rw_iload dX9_lay_151 rfl ?_
        have h := Option.some.inj h
        subst h
        exact rw_iret dX9_lay_153 ⟨rfl, rfl⟩
    · have h := bw_it c12 h
      refine rw_aload dX9_lay_123 rfl ?_
      refine rw_get dX9_lay_125 fl_RX9_379 (shU (iU_a (bw_lt g8))) (klU (iU_a (bw_lt g8))) rfl ?_
      refine rw_aload_n dX9_lay_128 rfl rfl ?_
      refine rw_get dX9_lay_129 fl_RX9_47 (sh_x w) (bw_kl (by decide)) rfl ?_
      refine rw_iload_n dX9_lay_132 rfl rfl ?_
      obtain ⟨g15, h⟩ := bw_gd h
      refine rw_aaldR dX9_lay_133 (sh_sheets w) rfl (bw_kl (by decide)) (bw_in g15) ?_
      obtain ⟨q16, hq16, h⟩ := bw_bd h
      refine rw_callV1 dX9_lay_134 ln_RX9_383 mv_X4_becomeAs (shT (iT_U (iU_a (bw_lt g8)))) (klT (iT_U (iU_a (bw_lt g8)))) (ct_X4_becomeAs (iT_U (iU_a (bw_lt g8))) (iT_a (bw_lt g15)) hq16) (Nat.le_of_ble_eq_true rfl) (Nat.le_of_ble_eq_true rfl) (bw_kkv ?_)
      refine rw_goto (tgt := 151) dX9_lay_137 (by decide) ?_
      refine rw_iload dX9_lay_151 rfl ?_
      have h := Option.some.inj h
      subst h
      exact rw_iret dX9_lay_153 ⟨rfl, rfl⟩
  · have h := bw_it c11 h
    refine rw_aload dX9_lay_98 rfl ?_
    refine rw_get dX9_lay_100 fl_RX9_372 (shU (iU_a (bw_lt g8))) (klU (iU_a (bw_lt g8))) rfl ?_
    refine rw_aload_n dX9_lay_103 rfl rfl ?_
    refine rw_get dX9_lay_104 fl_RX9_10 (sh_x w) (bw_kl (by decide)) rfl ?_
    refine rw_get dX9_lay_107 fl_RX9_157 (sh_now w) (bw_kl (by decide)) rfl ?_
    refine rw_iload_n dX9_lay_110 rfl rfl ?_
    obtain ⟨g17, h⟩ := bw_gd h
    refine rw_aaldR dX9_lay_111 (sh_now_boards w) rfl (bw_kl (by decide)) (bw_in g17) ?_
    obtain ⟨q18, hq18, h⟩ := bw_bd h
    refine rw_callV1 dX9_lay_112 ln_RX9_376 mv_X0_become (shB (iB_U (iU_a (bw_lt g8)))) (klB (iB_U (iU_a (bw_lt g8)))) (ct_X0_become (iB_U (iU_a (bw_lt g8))) (iB_n (bw_lt g17)) hq18) (Nat.le_of_ble_eq_true rfl) (Nat.le_of_ble_eq_true rfl) (bw_kkv ?_)
    refine rw_goto (tgt := 151) dX9_lay_115 (by decide) ?_
    refine rw_iload dX9_lay_151 rfl ?_
    have h := Option.some.inj h
    subst h
    exact rw_iret dX9_lay_153 ⟨rfl, rfl⟩
set_option maxRecDepth 20000 in
set_option maxHeartbeats 1000000 in
theorem th_X9_lay_J50 {w : WE} {M : Mem} {v1 : Int32} {v2 : Int32} {v3 : Int32} {out : Int32 × Mem} (h : f_X9_lay_J50 M v1 v2 v3 = some out) : RW w 3 0 0 0 0 cX9_lay RX9 6 (some .int) (bw_Z w (bw_pi (out.1) out.2)) 50 [(0, .ref (bw_ad w 0)), (1, .int v1), (2, .int v2), (3, .int v3)] [] M := by
  unfold f_X9_lay_J50 at h
  refine rw_iload_n dX9_lay_50 rfl rfl ?_
  refine rw_iconst (v := 2) dX9_lay_51 (by decide) ?_
  refine rw_icmp_ne (tgt := 72) dX9_lay_52 (by decide) (fun c7 => ?_) (fun c7 => ?_)
  · have h := bw_if c7 h
    exact rw_sub (rw_lc rfl (rw_lc rfl (rw_lc rfl (rw_lc rfl rw_lz)))) (th_X9_lay_J72 h)
  · have h := bw_it c7 h
    refine rw_aload_n dX9_lay_55 rfl rfl ?_
    refine rw_get dX9_lay_56 fl_RX9_47 (sh_x w) (bw_kl (by decide)) rfl ?_
    refine rw_iload_n dX9_lay_59 rfl rfl ?_
    obtain ⟨g19, h⟩ := bw_gd h
    refine rw_aaldR dX9_lay_60 (sh_sheets w) rfl (bw_kl (by decide)) (bw_in g19) ?_
    refine rw_get dX9_lay_61 fl_RX9_350 (shT (iT_a (bw_lt g19))) (klT (iT_a (bw_lt g19))) rfl ?_
    refine rw_iconst (v := -1) dX9_lay_64 (by decide) ?_
    refine rw_icmp_ne (tgt := 72) dX9_lay_65 (by decide) (fun c20 => ?_) (fun c20 => ?_)
    · have h := bw_if c20 h
      exact rw_sub (rw_lc rfl (rw_lc rfl (rw_lc rfl (rw_lc rfl rw_lz)))) (th_X9_lay_J72 h)
    · have h := bw_it c20 h
      refine rw_ldcw dX9_lay_68 cn_RX9_353 ?_
      have h := Option.some.inj h
      subst h
      exact rw_iret dX9_lay_71 ⟨rfl, rfl⟩
set_option maxRecDepth 20000 in
set_option maxHeartbeats 1000000 in
theorem th_X9_lay_J35 {w : WE} {M : Mem} {v1 : Int32} {v2 : Int32} {v3 : Int32} {out : Int32 × Mem} (h : f_X9_lay_J35 M v1 v2 v3 = some out) : RW w 3 0 0 0 0 cX9_lay RX9 6 (some .int) (bw_Z w (bw_pi (out.1) out.2)) 35 [(0, .ref (bw_ad w 0)), (1, .int v1), (2, .int v2), (3, .int v3)] [] M := by
  unfold f_X9_lay_J35 at h
  refine rw_iload_n dX9_lay_35 rfl rfl ?_
  refine rw_iconst (v := 2) dX9_lay_36 (by decide) ?_
  refine rw_icmp_ne (tgt := 50) dX9_lay_37 (by decide) (fun c6 => ?_) (fun c6 => ?_)
  · have h := bw_if c6 h
    exact rw_sub (rw_lc rfl (rw_lc rfl (rw_lc rfl (rw_lc rfl rw_lz)))) (th_X9_lay_J50 h)
  · have h := bw_it c6 h
    refine rw_iload_n dX9_lay_40 rfl rfl ?_
    refine rw_callS1 dX9_lay_41 ln_RX9_343 ms_X9_isSheet (ct_X9_isSheet rfl) (Nat.le_of_ble_eq_true rfl) (Nat.le_of_ble_eq_true rfl) (bw_kkz (fun z21 => ?_))
    refine rw_if_ne (tgt := 50) dX9_lay_44 (by decide) (fun c22 => ?_) (fun c22 => ?_)
    · have h := bw_if c22 h
      exact rw_sub (rw_lc rfl (rw_lc rfl (rw_lc rfl (rw_lc rfl rw_lz)))) (th_X9_lay_J50 h)
    · have h := bw_it c22 h
      refine rw_ldc dX9_lay_47 cn_RX9_83 ?_
      have h := Option.some.inj h
      subst h
      exact rw_iret dX9_lay_49 ⟨rfl, rfl⟩
set_option maxRecDepth 20000 in
set_option maxHeartbeats 1000000 in
theorem ct_X9_lay {w : WE} {M : Mem} {v1 : Int32} {v2 : Int32} {v3 : Int32} {out : Int32 × Mem} (h : f_X9_lay M v1 v2 v3 = some out) : Ct w 3 yX9_lay cX9_lay 6 (some .int) [.ref (bw_ad w 0), .int v1, .int v2, .int v3] M (bw_pi (out.1) out.2) := by
  refine Ct.of (own := RX9) rfl (by decide) (by intro v hv; simp only [List.mem_cons, List.not_mem_nil, or_false] at hv; rcases hv with rfl | rfl | rfl | rfl <;> first | rfl | exact bw_cat_rf _) (Nat.le_of_ble_eq_true rfl) ?_
  unfold f_X9_lay at h
  show RW w 3 0 0 0 0 cX9_lay RX9 6 (some .int) (bw_Z w (bw_pi (out.1) out.2)) 0 [(0, .ref (bw_ad w 0)), (1, .int v1), (2, .int v2), (3, .int v3)] [] M
  refine rw_iload_n dX9_lay_0 rfl rfl ?_
  refine rw_callS1 dX9_lay_1 ln_RX9_366 ms_X9_isSlot (ct_X9_isSlot rfl) (Nat.le_of_ble_eq_true rfl) (Nat.le_of_ble_eq_true rfl) (bw_kkz (fun z1 => ?_))
  refine rw_if_eq (tgt := 16) dX9_lay_4 (by decide) (fun c2 => ?_) (fun c2 => ?_)
  · have h := bw_it c2 h
    refine rw_ldc dX9_lay_16 cn_RX9_83 ?_
    have h := Option.some.inj h
    subst h
    exact rw_iret dX9_lay_18 ⟨rfl, rfl⟩
  · have h := bw_if c2 h
    refine rw_iload_n dX9_lay_7 rfl rfl ?_
    refine rw_iconst (v := 0) dX9_lay_8 (by decide) ?_
    refine rw_iconst (v := 3) dX9_lay_9 (by decide) ?_
    refine rw_callS3 dX9_lay_10 ln_RX9_79 ms_X9_isWithin (ct_X9_isWithin rfl) (Nat.le_of_ble_eq_true rfl) (Nat.le_of_ble_eq_true rfl) (bw_kkz (fun z3 => ?_))
    refine rw_if_ne (tgt := 19) dX9_lay_13 (by decide) (fun c4 => ?_) (fun c4 => ?_)
    · have h := bw_if c4 h
      refine rw_iload_n dX9_lay_19 rfl rfl ?_
      refine rw_iconst (v := 1) dX9_lay_20 (by decide) ?_
      refine rw_icmp_ne (tgt := 35) dX9_lay_21 (by decide) (fun c5 => ?_) (fun c5 => ?_)
      · have h := bw_if c5 h
        exact rw_sub (rw_lc rfl (rw_lc rfl (rw_lc rfl (rw_lc rfl rw_lz)))) (th_X9_lay_J35 h)
      · have h := bw_it c5 h
        refine rw_aload_n dX9_lay_24 rfl rfl ?_
        refine rw_get dX9_lay_25 fl_RX9_10 (sh_x w) (bw_kl (by decide)) rfl ?_
        refine rw_iload_n dX9_lay_28 rfl rfl ?_
        refine rw_callV1 dX9_lay_29 ln_RX9_154 mv_X6_hasBoard (sh_now w) (bw_kl (by decide)) (ct_X6_hasBoard (by decide) rfl) (Nat.le_of_ble_eq_true rfl) (Nat.le_of_ble_eq_true rfl) (bw_kkz (fun z23 => ?_))
        refine rw_if_eq (tgt := 47) dX9_lay_32 (by decide) (fun c24 => ?_) (fun c24 => ?_)
        · have h := bw_it c24 h
          refine rw_ldc dX9_lay_47 cn_RX9_83 ?_
          have h := Option.some.inj h
          subst h
          exact rw_iret dX9_lay_49 ⟨rfl, rfl⟩
        · have h := bw_if c24 h
          exact rw_sub (rw_lc rfl (rw_lc rfl (rw_lc rfl (rw_lc rfl rw_lz)))) (th_X9_lay_J35 h)
    · have h := bw_it c4 h
      refine rw_ldc dX9_lay_16 cn_RX9_83 ?_
      have h := Option.some.inj h
      subst h
      exact rw_iret dX9_lay_18 ⟨rfl, rfl⟩
set_option maxRecDepth 20000 in
set_option maxHeartbeats 1000000 in
theorem ct_X9_ask {w : WE} {M : Mem} {v1 : Int32} {v2 : Int32} {out : Int32} (h : f_X9_ask M v1 v2 = some out) : Ct w 3 yX9_ask cX9_ask 5 (some .int) [.ref (bw_ad w 0), .int v1, .int v2] M (bw_pi (out) M) := by
  refine Ct.of (own := RX9) rfl (by decide) (by intro v hv; simp only [List.mem_cons, List.not_mem_nil, or_false] at hv; rcases hv with rfl | rfl | rfl <;> first | rfl | exact bw_cat_rf _) (Nat.le_of_ble_eq_true rfl) ?_
  unfold f_X9_ask at h
  show RW w 3 0 0 0 0 cX9_ask RX9 5 (some .int) (bw_Z w (bw_pi (out) M)) 0 [(0, .ref (bw_ad w 0)), (1, .int v1), (2, .int v2)] [] M
  refine rw_iload_n dX9_ask_0 rfl rfl ?_
  refine rw_callS1 dX9_ask_1 ln_RX9_366 ms_X9_isSlot (ct_X9_isSlot rfl) (Nat.le_of_ble_eq_true rfl) (Nat.le_of_ble_eq_true rfl) (bw_kkz (fun z1 => ?_))
  refine rw_if_eq (tgt := 14) dX9_ask_4 (by decide) (fun c2 => ?_) (fun c2 => ?_)
  · have h := bw_it c2 h
    refine rw_ldc dX9_ask_14 cn_RX9_83 ?_
    have h := Option.some.inj h
    subst h
    exact rw_iret dX9_ask_16 ⟨rfl, rfl⟩
  · have h := bw_if c2 h
    refine rw_iload_n dX9_ask_7 rfl rfl ?_
    refine rw_callS1 dX9_ask_8 ln_RX9_144 ms_X9_isKind (ct_X9_isKind rfl) (Nat.le_of_ble_eq_true rfl) (Nat.le_of_ble_eq_true rfl) (bw_kkz (fun z3 => ?_))
    refine rw_if_ne (tgt := 17) dX9_ask_11 (by decide) (fun c4 => ?_) (fun c4 => ?_)
    · have h := bw_if c4 h
      refine rw_aload_n dX9_ask_17 rfl rfl ?_
      refine rw_get dX9_ask_18 fl_RX9_53 (sh_x w) (bw_kl (by decide)) rfl ?_
      refine rw_iload_n dX9_ask_21 rfl rfl ?_
      obtain ⟨g5, h⟩ := bw_gd h
      refine rw_aaldR dX9_ask_22 (sh_slots w) rfl (bw_kl (by decide)) (bw_in g5) ?_
      refine rw_iconst (v := 1) dX9_ask_23 (by decide) ?_
      refine rw_callV1 dX9_ask_24 ln_RX9_390 mv_X5_finding (shU (iU_a (bw_lt g5))) (klU (iU_a (bw_lt g5))) (ct_X5_finding (iU_a (bw_lt g5)) rfl) (Nat.le_of_ble_eq_true rfl) (Nat.le_of_ble_eq_true rfl) (bw_kki ?_)
      obtain ⟨x6, hx6, h⟩ := bw_mlE h
      refine rw_ti hx6 ?_
      refine rw_istore_n dX9_ask_27 rfl (by decide) ?_
      refine rw_iload_n dX9_ask_28 rfl rfl ?_
      refine rw_if_eq (tgt := 34) dX9_ask_29 (by decide) (fun c7 => ?_) (fun c7 => ?_)
      · have h := bw_it c7 h
        refine rw_aload_n dX9_ask_34 rfl rfl ?_
        refine rw_get dX9_ask_35 fl_RX9_53 (sh_x w) (bw_kl (by decide)) rfl ?_
        refine rw_iload_n dX9_ask_38 rfl rfl ?_
        refine rw_aaldR dX9_ask_39 (sh_slots w) rfl (bw_kl (by decide)) (bw_in g5) ?_
        refine rw_get dX9_ask_40 fl_RX9_372 (shU (iU_a (bw_lt g5))) (klU (iU_a (bw_lt g5))) rfl ?_
        refine rw_astore dX9_ask_43 (by decide) ?_
        refine rw_aload dX9_ask_45 rfl ?_
        refine rw_get dX9_ask_47 fl_RX9_161 (shB (iB_U (iU_a (bw_lt g5)))) (klB (iB_U (iU_a (bw_lt g5)))) rfl ?_
        refine rw_iload_n dX9_ask_50 rfl rfl ?_
        obtain ⟨q8, hq8, h⟩ := bw_bd h
        refine rw_callS2 dX9_ask_51 ln_RX9_189 ms_X9_isUnder (ct_X9_isUnder hq8) (Nat.le_of_ble_eq_true rfl) (Nat.le_of_ble_eq_true rfl) (bw_kkz (fun z9 => ?_))
        refine rw_if_eq (tgt := 65) dX9_ask_54 (by decide) (fun c10 => ?_) (fun c10 => ?_)
        · have h := bw_it c10 h
          refine rw_ldc dX9_ask_65 cn_RX9_193 ?_
          have h := Option.some.inj h
          subst h
          exact rw_iret dX9_ask_67 ⟨rfl, rfl⟩
        · have h := bw_if c10 h
          refine rw_aload dX9_ask_57 rfl ?_
          refine rw_callV0 dX9_ask_59 ln_RX9_182 mv_X0_worth (shB (iB_U (iU_a (bw_lt g5)))) (klB (iB_U (iU_a (bw_lt g5)))) (ct_X0_worth (iB_U (iU_a (bw_lt g5))) rfl) (Nat.le_of_ble_eq_true rfl) (Nat.le_of_ble_eq_true rfl) (bw_kki ?_)
          refine rw_goto (tgt := 67) dX9_ask_62 (by decide) ?_
          have h := Option.some.inj h
          subst h
          exact rw_iret dX9_ask_67 ⟨rfl, rfl⟩
      · have h := bw_if c7 h
        refine rw_iload_n dX9_ask_32 rfl rfl ?_
        have h := Option.some.inj h
        subst h
        exact rw_iret dX9_ask_33 ⟨rfl, rfl⟩
    · have h := bw_it c4 h
      refine rw_ldc dX9_ask_14 cn_RX9_83 ?_
      have h := Option.some.inj h
      subst h
      exact rw_iret dX9_ask_16 ⟨rfl, rfl⟩
set_option maxRecDepth 20000 in
set_option maxHeartbeats 1000000 in
theorem ct_X9_item {w : WE} {M : Mem} {v1 : Int32} {v2 : Int32} {out : Int32} (h : f_X9_item M v1 v2 = some out) : Ct w 2 yX9_item cX9_item 5 (some .int) [.ref (bw_ad w 0), .int v1, .int v2] M (bw_pi (out) M) := by
  refine Ct.of (own := RX9) rfl (by decide) (by intro v hv; simp only [List.mem_cons, List.not_mem_nil, or_false] at hv; rcases hv with rfl | rfl | rfl <;> first | rfl | exact bw_cat_rf _) (Nat.le_of_ble_eq_true rfl) ?_
  unfold f_X9_item at h
  show RW w 2 0 0 0 0 cX9_item RX9 5 (some .int) (bw_Z w (bw_pi (out) M)) 0 [(0, .ref (bw_ad w 0)), (1, .int v1), (2, .int v2)] [] M
  refine rw_iload_n dX9_item_0 rfl rfl ?_
  refine rw_callS1 dX9_item_1 ln_RX9_366 ms_X9_isSlot (ct_X9_isSlot rfl) (Nat.le_of_ble_eq_true rfl) (Nat.le_of_ble_eq_true rfl) (bw_kkz (fun z1 => ?_))
  refine rw_if_ne (tgt := 10) dX9_item_4 (by decide) (fun c2 => ?_) (fun c2 => ?_)
  · have h := bw_if c2 h
    refine rw_aload_n dX9_item_10 rfl rfl ?_
    refine rw_get dX9_item_11 fl_RX9_53 (sh_x w) (bw_kl (by decide)) rfl ?_
    refine rw_iload_n dX9_item_14 rfl rfl ?_
    obtain ⟨g3, h⟩ := bw_gd h
    refine rw_aaldR dX9_item_15 (sh_slots w) rfl (bw_kl (by decide)) (bw_in g3) ?_
    refine rw_iconst (v := 2) dX9_item_16 (by decide) ?_
    refine rw_callV1 dX9_item_17 ln_RX9_390 mv_X5_finding (shU (iU_a (bw_lt g3))) (klU (iU_a (bw_lt g3))) (ct_X5_finding (iU_a (bw_lt g3)) rfl) (Nat.le_of_ble_eq_true rfl) (Nat.le_of_ble_eq_true rfl) (bw_kki ?_)
    obtain ⟨x4, hx4, h⟩ := bw_mlE h
    refine rw_ti hx4 ?_
    refine rw_istore_n dX9_item_20 rfl (by decide) ?_
    refine rw_iload_n dX9_item_21 rfl rfl ?_
    refine rw_if_eq (tgt := 27) dX9_item_22 (by decide) (fun c5 => ?_) (fun c5 => ?_)
    · have h := bw_it c5 h
      refine rw_aload_n dX9_item_27 rfl rfl ?_
      refine rw_get dX9_item_28 fl_RX9_53 (sh_x w) (bw_kl (by decide)) rfl ?_
      refine rw_iload_n dX9_item_31 rfl rfl ?_
      refine rw_aaldR dX9_item_32 (sh_slots w) rfl (bw_kl (by decide)) (bw_in g3) ?_
      refine rw_get dX9_item_33 fl_RX9_379 (shU (iU_a (bw_lt g3))) (klU (iU_a (bw_lt g3))) rfl ?_
      refine rw_astore dX9_item_36 (by decide) ?_
      refine rw_aload dX9_item_38 rfl ?_
      refine rw_iload_n dX9_item_40 rfl rfl ?_
      refine rw_iconst (v := 1) dX9_item_41 (by decide) ?_
      refine rw_callV2 dX9_item_42 ln_RX9_354 mv_X4_hasPlaces (shT (iT_U (iU_a (bw_lt g3)))) (klT (iT_U (iU_a (bw_lt g3)))) (ct_X4_hasPlaces (iT_U (iU_a (bw_lt g3))) rfl) (Nat.le_of_ble_eq_true rfl) (Nat.le_of_ble_eq_true rfl) (bw_kkz (fun z6 => ?_))
      refine rw_if_ne (tgt := 52) dX9_item_45 (by decide) (fun c7 => ?_) (fun c7 => ?_)
      · have h := bw_if c7 h
        refine rw_aload dX9_item_52 rfl ?_
        refine rw_get dX9_item_54 fl_RX9_360 (shT (iT_U (iU_a (bw_lt g3)))) (klT (iT_U (iU_a (bw_lt g3)))) rfl ?_
        refine rw_iload_n dX9_item_57 rfl rfl ?_
        obtain ⟨g8, h⟩ := bw_gd h
        refine rw_iald dX9_item_58 (shT1 (iT_U (iU_a (bw_lt g3)))) (klT1 (iT_U (iU_a (bw_lt g3)))) (bw_in g8) ?_
        refine rw_ldc dX9_item_59 cn_RX9_121 ?_
        have key : RW w 2 0 0 0 0 cX9_item RX9 5 (some .int) (bw_Z w (bw_pi (out) M)) 76 [] [.int (if (M (((73 + 4 * v1.toNatClampNeg) + 2) + 1) v2.toNatClampNeg) = (-1000000005 : Int32) then (-1000000012 : Int32) else M (((73 + 4 * v1.toNatClampNeg) + 2) + 1) v2.toNatClampNeg)] M := by
          have h := Option.some.inj h
          subst h
          exact rw_iret dX9_item_76 ⟨rfl, rfl⟩
        refine rw_icmp_ne (tgt := 69) dX9_item_61 (by decide) (fun c9 => ?_) (fun c9 => ?_)
        · refine rw_aload dX9_item_69 rfl ?_
          refine rw_get dX9_item_71 fl_RX9_360 (shT (iT_U (iU_a (bw_lt g3)))) (klT (iT_U (iU_a (bw_lt g3)))) rfl ?_
          refine rw_iload_n dX9_item_74 rfl rfl ?_
          refine rw_iald dX9_item_75 (shT1 (iT_U (iU_a (bw_lt g3)))) (klT1 (iT_U (iU_a (bw_lt g3)))) (bw_in g8) ?_
          simp only [if_neg c9] at key
          exact rw_sub rw_lz key
        · refine rw_ldc dX9_item_64 cn_RX9_193 ?_
          refine rw_goto (tgt := 76) dX9_item_66 (by decide) ?_
          simp only [if_pos c9] at key
          exact rw_sub rw_lz key
      · have h := bw_it c7 h
        refine rw_ldcw dX9_item_48 cn_RX9_357 ?_
        have h := Option.some.inj h
        subst h
        exact rw_iret dX9_item_51 ⟨rfl, rfl⟩
    · have h := bw_if c5 h
      refine rw_iload_n dX9_item_25 rfl rfl ?_
      have h := Option.some.inj h
      subst h
      exact rw_iret dX9_item_26 ⟨rfl, rfl⟩
  · have h := bw_it c2 h
    refine rw_ldc dX9_item_7 cn_RX9_83 ?_
    have h := Option.some.inj h
    subst h
    exact rw_iret dX9_item_9 ⟨rfl, rfl⟩
set_option maxRecDepth 20000 in
set_option maxHeartbeats 1000000 in
theorem ct_X9_rest {w : WE} {M : Mem} {v1 : Int32} {v2 : Int32} {out : Int32} (h : f_X9_rest M v1 v2 = some out) : Ct w 2 yX9_rest cX9_rest 4 (some .int) [.ref (bw_ad w 0), .int v1, .int v2] M (bw_pi (out) M) := by
  refine Ct.of (own := RX9) rfl (by decide) (by intro v hv; simp only [List.mem_cons, List.not_mem_nil, or_false] at hv; rcases hv with rfl | rfl | rfl <;> first | rfl | exact bw_cat_rf _) (Nat.le_of_ble_eq_true rfl) ?_
  unfold f_X9_rest at h
  show RW w 2 0 0 0 0 cX9_rest RX9 4 (some .int) (bw_Z w (bw_pi (out) M)) 0 [(0, .ref (bw_ad w 0)), (1, .int v1), (2, .int v2)] [] M
  refine rw_iload_n dX9_rest_0 rfl rfl ?_
  refine rw_callS1 dX9_rest_1 ln_RX9_366 ms_X9_isSlot (ct_X9_isSlot rfl) (Nat.le_of_ble_eq_true rfl) (Nat.le_of_ble_eq_true rfl) (bw_kkz (fun z1 => ?_))
  refine rw_if_ne (tgt := 10) dX9_rest_4 (by decide) (fun c2 => ?_) (fun c2 => ?_)
  · have h := bw_if c2 h
    refine rw_aload_n dX9_rest_10 rfl rfl ?_
    refine rw_get dX9_rest_11 fl_RX9_53 (sh_x w) (bw_kl (by decide)) rfl ?_
    refine rw_iload_n dX9_rest_14 rfl rfl ?_
    obtain ⟨g3, h⟩ := bw_gd h
    refine rw_aaldR dX9_rest_15 (sh_slots w) rfl (bw_kl (by decide)) (bw_in g3) ?_
    refine rw_iconst (v := 3) dX9_rest_16 (by decide) ?_
    refine rw_callV1 dX9_rest_17 ln_RX9_390 mv_X5_finding (shU (iU_a (bw_lt g3))) (klU (iU_a (bw_lt g3))) (ct_X5_finding (iU_a (bw_lt g3)) rfl) (Nat.le_of_ble_eq_true rfl) (Nat.le_of_ble_eq_true rfl) (bw_kki ?_)
    obtain ⟨x4, hx4, h⟩ := bw_mlE h
    refine rw_ti hx4 ?_
    refine rw_istore_n dX9_rest_20 rfl (by decide) ?_
    refine rw_iload_n dX9_rest_21 rfl rfl ?_
    refine rw_if_eq (tgt := 27) dX9_rest_22 (by decide) (fun c5 => ?_) (fun c5 => ?_)
    · have h := bw_it c5 h
      refine rw_iload_n dX9_rest_27 rfl rfl ?_
      refine rw_if_ne (tgt := 36) dX9_rest_28 (by decide) (fun c6 => ?_) (fun c6 => ?_)
      · have h := bw_if c6 h
        refine rw_aload_n dX9_rest_36 rfl rfl ?_
        refine rw_get dX9_rest_37 fl_RX9_53 (sh_x w) (bw_kl (by decide)) rfl ?_
        refine rw_iload_n dX9_rest_40 rfl rfl ?_
        refine rw_aaldR dX9_rest_41 (sh_slots w) rfl (bw_kl (by decide)) (bw_in g3) ?_
        refine rw_get dX9_rest_42 fl_RX9_387 (shU (iU_a (bw_lt g3))) (klU (iU_a (bw_lt g3))) rfl ?_
        refine rw_iload_n dX9_rest_45 rfl rfl ?_
        obtain ⟨g7, h⟩ := bw_gd h
        refine rw_irem dX9_rest_46 g7 ?_
        have h := Option.some.inj h
        subst h
        exact rw_iret dX9_rest_47 ⟨rfl, rfl⟩
      · have h := bw_it c6 h
        refine rw_ldc dX9_rest_31 cn_RX9_232 ?_
        refine rw_goto (tgt := 47) dX9_rest_33 (by decide) ?_
        have h := Option.some.inj h
        subst h
        exact rw_iret dX9_rest_47 ⟨rfl, rfl⟩
    · have h := bw_if c5 h
      refine rw_iload_n dX9_rest_25 rfl rfl ?_
      have h := Option.some.inj h
      subst h
      exact rw_iret dX9_rest_26 ⟨rfl, rfl⟩
  · have h := bw_it c2 h
    refine rw_ldc dX9_rest_7 cn_RX9_83 ?_
    have h := Option.some.inj h
    subst h
    exact rw_iret dX9_rest_9 ⟨rfl, rfl⟩
set_option maxRecDepth 20000 in
set_option maxHeartbeats 1000000 in
theorem ct_X9_tell {w : WE} {M : Mem} {v1 : Int32} {out : Int32 × Mem} (h : f_X9_tell M v1 = some out) : Ct w 0 yX9_tell cX9_tell 2 (some .int) [.ref (bw_ad w 0), .int v1] M (bw_pi (out.1) out.2) := by
  refine Ct.of (own := RX9) rfl (by decide) (by intro v hv; simp only [List.mem_cons, List.not_mem_nil, or_false] at hv; rcases hv with rfl | rfl <;> first | rfl | exact bw_cat_rf _) (Nat.le_of_ble_eq_true rfl) ?_
  unfold f_X9_tell at h
  show RW w 0 0 0 0 0 cX9_tell RX9 2 (some .int) (bw_Z w (bw_pi (out.1) out.2)) 0 [(0, .ref (bw_ad w 0)), (1, .int v1)] [] M
  refine rw_aload_n dX9_tell_0 rfl rfl ?_
  refine rw_get dX9_tell_1 fl_RX9_393 (sh_x w) (bw_kl (by decide)) rfl ?_
  refine rw_bipush (v := 60) dX9_tell_4 (by decide) ?_
  refine rw_icmp_lt (tgt := 12) dX9_tell_6 (by decide) (fun c1 => ?_) (fun c1 => ?_)
  · have h := bw_it c1 h
    refine rw_aload_n dX9_tell_12 rfl rfl ?_
    refine rw_get dX9_tell_13 fl_RX9_57 (sh_x w) (bw_kl (by decide)) rfl ?_
    refine rw_aload_n dX9_tell_16 rfl rfl ?_
    refine rw_get dX9_tell_17 fl_RX9_393 (sh_x w) (bw_kl (by decide)) rfl ?_
    refine rw_iload_n dX9_tell_20 rfl rfl ?_
    obtain ⟨g2, h⟩ := bw_gd h
    refine rw_iast dX9_tell_21 (sh_waiting w) (bw_kl (by decide)) (bw_in g2) ?_
    obtain ⟨M3, hM3, h⟩ := bw_mlE h
    refine rw_m hM3.symm ?_
    refine rw_aload_n dX9_tell_22 rfl rfl ?_
    refine rw_dup dX9_tell_23 rfl ?_
    refine rw_get dX9_tell_24 fl_RX9_393 (sh_x w) (bw_kl (by decide)) rfl ?_
    refine rw_iconst (v := 1) dX9_tell_27 (by decide) ?_
    refine rw_iadd dX9_tell_28 ?_
    refine rw_puti dX9_tell_29 fl_RX9_393 fp_9_10 (sh_x w) (bw_kl (by decide)) (by decide) (fun _ => rfl) (fun _ => Nat.le_of_ble_eq_true rfl) ?_
    obtain ⟨M4, hM4, h⟩ := bw_mlE h
    refine rw_m hM4.symm ?_
    refine rw_aload_n dX9_tell_32 rfl rfl ?_
    refine rw_get dX9_tell_33 fl_RX9_393 (sh_x w) (bw_kl (by decide)) rfl ?_
    have h := Option.some.inj h
    subst h
    exact rw_iret dX9_tell_36 ⟨rfl, rfl⟩
  · have h := bw_if c1 h
    refine rw_ldc dX9_tell_9 cn_RX9_88 ?_
    have h := Option.some.inj h
    subst h
    exact rw_iret dX9_tell_11 ⟨rfl, rfl⟩
set_option maxRecDepth 20000 in
set_option maxHeartbeats 1000000 in
theorem th_X9_rightOnes_L20 {w : WE} {v1 : Int32} {v2 : Int32} {out : Int32 × Mem} : ∀ (n : Nat) (v3 : Int32) (v4 : Int32) (M : Mem), f_X9_rightOnes_L20 v1 v2 n v3 v4 M = some out → RW w 4 0 0 0 0 cX9_rightOnes RX9 5 (some .int) (bw_Z w (bw_pi (out.1) out.2)) 20 [(0, .ref (bw_ad w 0)), (1, .int v1), (2, .int v2), (3, .int v3), (4, .int v4)] [] M := by
  intro n
  induction n with
  | zero => intro v3 v4 M h; cases h
  | succ n ih =>
    intro v3 v4 M h
    rw [f_X9_rightOnes_L20] at h
    refine rw_iload dX9_rightOnes_20 rfl ?_
    refine rw_iload_n dX9_rightOnes_22 rfl rfl ?_
    refine rw_icmp_gt (tgt := 93) dX9_rightOnes_23 (by decide) (fun c2 => ?_) (fun c2 => ?_)
    · have h := bw_it c2 h
      refine rw_iload_n dX9_rightOnes_93 rfl rfl ?_
      have h := Option.some.inj h
      subst h
      exact rw_iret dX9_rightOnes_94 ⟨rfl, rfl⟩
    · have h := bw_if c2 h
      refine rw_aload_n dX9_rightOnes_26 rfl rfl ?_
      refine rw_get dX9_rightOnes_27 fl_RX9_29 (sh_x w) (bw_kl (by decide)) rfl ?_
      refine rw_iload dX9_rightOnes_30 rfl ?_
      obtain ⟨q3, hq3, h⟩ := bw_bd h
      refine rw_callV1 dX9_rightOnes_32 ln_RX9_326 mv_X8_pass (sh_years w) (bw_kl (by decide)) (ct_X8_pass hq3) (Nat.le_of_ble_eq_true rfl) (Nat.le_of_ble_eq_true rfl) (bw_kkv ?_)
      refine rw_iload_n dX9_rightOnes_35 rfl rfl ?_
      refine rw_iload_n dX9_rightOnes_36 rfl rfl ?_
      refine rw_icmp_ge (tgt := 56) dX9_rightOnes_37 (by decide) (fun c4 => ?_) (fun c4 => ?_)
      · have h := bw_it c4 h
        refine rw_iload_n dX9_rightOnes_56 rfl rfl ?_
        have h := Option.some.inj h
        subst h
        exact rw_iret dX9_rightOnes_57 ⟨rfl, rfl⟩
      · have h := bw_if c4 h
        refine rw_aload_n dX9_rightOnes_40 rfl rfl ?_
        refine rw_get dX9_rightOnes_41 fl_RX9_57 (sh_x w) (bw_kl (by decide)) rfl ?_
        refine rw_iload_n dX9_rightOnes_44 rfl rfl ?_
        obtain ⟨g5, h⟩ := bw_gd h
        refine rw_iald dX9_rightOnes_45 (sh_waiting w) (bw_kl (by decide)) (bw_in g5) ?_
        refine rw_aload_n dX9_rightOnes_46 rfl rfl ?_
        refine rw_get dX9_rightOnes_47 fl_RX9_29 (sh_x w) (bw_kl (by decide)) rfl ?_
        obtain ⟨q6, hq6, h⟩ := bw_bd h
        refine rw_callV0 dX9_rightOnes_50 ln_RX9_332 mv_X8_thickest (sh_years w) (bw_kl (by decide)) (ct_X8_thickest hq6) (Nat.le_of_ble_eq_true rfl) (Nat.le_of_ble_eq_true rfl) (bw_kki ?_)
        refine rw_icmp_eq (tgt := 58) dX9_rightOnes_53 (by decide) (fun c7 => ?_) (fun c7 => ?_)
        · have h := bw_it c7 h
          refine rw_inc dX9_rightOnes_58 rfl (by decide) ?_
          refine rw_iload_n dX9_rightOnes_61 rfl rfl ?_
          refine rw_iload_n dX9_rightOnes_62 rfl rfl ?_
          refine rw_icmp_ge (tgt := 82) dX9_rightOnes_63 (by decide) (fun c8 => ?_) (fun c8 => ?_)
          · have h := bw_it c8 h
            refine rw_iload_n dX9_rightOnes_82 rfl rfl ?_
            have h := Option.some.inj h
            subst h
            exact rw_iret dX9_rightOnes_83 ⟨rfl, rfl⟩
          · have h := bw_if c8 h
            refine rw_aload_n dX9_rightOnes_66 rfl rfl ?_
            refine rw_get dX9_rightOnes_67 fl_RX9_57 (sh_x w) (bw_kl (by decide)) rfl ?_
            refine rw_iload_n dX9_rightOnes_70 rfl rfl ?_
            obtain ⟨g9, h⟩ := bw_gd h
            refine rw_iald dX9_rightOnes_71 (sh_waiting w) (bw_kl (by decide)) (bw_in g9) ?_
            refine rw_aload_n dX9_rightOnes_72 rfl rfl ?_
            refine rw_get dX9_rightOnes_73 fl_RX9_29 (sh_x w) (bw_kl (by decide)) rfl ?_
            obtain ⟨q10, hq10, h⟩ := bw_bd h
            refine rw_callV0 dX9_rightOnes_76 ln_RX9_329 mv_X8_thickness (sh_years w) (bw_kl (by decide)) (ct_X8_thickness hq10) (Nat.le_of_ble_eq_true rfl) (Nat.le_of_ble_eq_true rfl) (bw_kki ?_)
            refine rw_icmp_eq (tgt := 84) dX9_rightOnes_79 (by decide) (fun c11 => ?_) (fun c11 => ?_)
            · have h := bw_it c11 h
              refine rw_inc dX9_rightOnes_84 rfl (by decide) ?_
              refine rw_inc dX9_rightOnes_87 rfl (by decide) ?_
              refine rw_goto (tgt := 20) dX9_rightOnes_90 (by decide) ?_
              exact rw_sub (rw_lc rfl (rw_lc rfl (rw_lc rfl (rw_lc rfl (rw_lc rfl rw_lz))))) (ih ((v3 + 1) + 1) (v4 + 1) q3 h)
            · have h := bw_if c11 h
              refine rw_iload_n dX9_rightOnes_82 rfl rfl ?_
              have h := Option.some.inj h
              subst h
              exact rw_iret dX9_rightOnes_83 ⟨rfl, rfl⟩
        · have h := bw_if c7 h
          refine rw_iload_n dX9_rightOnes_56 rfl rfl ?_
          have h := Option.some.inj h
          subst h
          exact rw_iret dX9_rightOnes_57 ⟨rfl, rfl⟩
set_option maxRecDepth 20000 in
set_option maxHeartbeats 1000000 in
theorem ct_X9_rightOnes {w : WE} {M : Mem} {v1 : Int32} {v2 : Int32} {out : Int32 × Mem} (h : f_X9_rightOnes M v1 v2 = some out) : Ct w 4 yX9_rightOnes cX9_rightOnes 5 (some .int) [.ref (bw_ad w 0), .int v1, .int v2] M (bw_pi (out.1) out.2) := by
  refine Ct.of (own := RX9) rfl (by decide) (by intro v hv; simp only [List.mem_cons, List.not_mem_nil, or_false] at hv; rcases hv with rfl | rfl | rfl <;> first | rfl | exact bw_cat_rf _) (Nat.le_of_ble_eq_true rfl) ?_
  unfold f_X9_rightOnes at h
  show RW w 4 0 0 0 0 cX9_rightOnes RX9 5 (some .int) (bw_Z w (bw_pi (out.1) out.2)) 0 [(0, .ref (bw_ad w 0)), (1, .int v1), (2, .int v2)] [] M
  refine rw_aload_n dX9_rightOnes_0 rfl rfl ?_
  refine rw_get dX9_rightOnes_1 fl_RX9_29 (sh_x w) (bw_kl (by decide)) rfl ?_
  refine rw_aload_n dX9_rightOnes_4 rfl rfl ?_
  refine rw_get dX9_rightOnes_5 fl_RX9_16 (sh_x w) (bw_kl (by decide)) rfl ?_
  refine rw_aload_n dX9_rightOnes_8 rfl rfl ?_
  refine rw_get dX9_rightOnes_9 fl_RX9_22 (sh_x w) (bw_kl (by decide)) rfl ?_
  obtain ⟨q1, hq1, h⟩ := bw_bd h
  refine rw_callV2 dX9_rightOnes_12 ln_RX9_322 mv_X8_begin (sh_years w) (bw_kl (by decide)) (ct_X8_begin (by decide) hq1) (Nat.le_of_ble_eq_true rfl) (Nat.le_of_ble_eq_true rfl) (bw_kkv ?_)
  refine rw_iconst (v := 0) dX9_rightOnes_15 (by decide) ?_
  refine rw_istore_n dX9_rightOnes_16 rfl (by decide) ?_
  refine rw_iconst (v := 1) dX9_rightOnes_17 (by decide) ?_
  refine rw_istore dX9_rightOnes_18 (by decide) ?_
  exact rw_sub (rw_lc rfl (rw_lc rfl (rw_lc rfl (rw_lc rfl (rw_lc rfl rw_lz))))) (th_X9_rightOnes_L20 bw_fu (0 : Int32) (1 : Int32) q1 h)
set_option maxRecDepth 20000 in
set_option maxHeartbeats 1000000 in
theorem ct_X9_check {w : WE} {M : Mem} {v1 : Int32} {out : Int32 × Mem} (h : f_X9_check M v1 = some out) : Ct w 7 yX9_check cX9_check 4 (some .int) [.ref (bw_ad w 0), .int v1] M (bw_pi (out.1) out.2) := by
  refine Ct.of (own := RX9) rfl (by decide) (by intro v hv; simp only [List.mem_cons, List.not_mem_nil, or_false] at hv; rcases hv with rfl | rfl <;> first | rfl | exact bw_cat_rf _) (Nat.le_of_ble_eq_true rfl) ?_
  unfold f_X9_check at h
  show RW w 7 0 0 0 0 cX9_check RX9 4 (some .int) (bw_Z w (bw_pi (out.1) out.2)) 0 [(0, .ref (bw_ad w 0)), (1, .int v1)] [] M
  refine rw_aload_n dX9_check_0 rfl rfl ?_
  refine rw_get dX9_check_1 fl_RX9_393 (sh_x w) (bw_kl (by decide)) rfl ?_
  refine rw_istore_n dX9_check_4 rfl (by decide) ?_
  refine rw_aload_n dX9_check_5 rfl rfl ?_
  refine rw_iconst (v := 0) dX9_check_6 (by decide) ?_
  refine rw_puti dX9_check_7 fl_RX9_393 fp_9_10 (sh_x w) (bw_kl (by decide)) (by decide) (fun _ => rfl) (fun _ => Nat.le_of_ble_eq_true rfl) ?_
  obtain ⟨M1, hM1, h⟩ := bw_mlE h
  refine rw_m hM1.symm ?_
  refine rw_iload_n dX9_check_10 rfl rfl ?_
  refine rw_iconst (v := 1) dX9_check_11 (by decide) ?_
  refine rw_bipush (v := 30) dX9_check_12 (by decide) ?_
  refine rw_callS3 dX9_check_14 ln_RX9_79 ms_X9_isWithin (ct_X9_isWithin rfl) (Nat.le_of_ble_eq_true rfl) (Nat.le_of_ble_eq_true rfl) (bw_kkz (fun z2 => ?_))
  refine rw_if_ne (tgt := 23) dX9_check_17 (by decide) (fun c3 => ?_) (fun c3 => ?_)
  · have h := bw_if c3 h
    refine rw_aload_n dX9_check_23 rfl rfl ?_
    refine rw_get dX9_check_24 fl_RX9_396 (sh_x w) (bw_kl (by decide)) rfl ?_
    refine rw_if_eq (tgt := 57) dX9_check_27 (by decide) (fun c4 => ?_) (fun c4 => ?_)
    · have h := bw_it c4 h
      refine rw_ldc dX9_check_57 cn_RX9_232 ?_
      have h := Option.some.inj h
      subst h
      exact rw_iret dX9_check_59 ⟨rfl, rfl⟩
    · have h := bw_if c4 h
      refine rw_aload_n dX9_check_30 rfl rfl ?_
      refine rw_get dX9_check_31 fl_RX9_22 (sh_x w) (bw_kl (by decide)) rfl ?_
      refine rw_aload_n dX9_check_34 rfl rfl ?_
      refine rw_get dX9_check_35 fl_RX9_16 (sh_x w) (bw_kl (by decide)) rfl ?_
      obtain ⟨q5, hq5, h⟩ := bw_bd h
      refine rw_callV1 dX9_check_38 ln_RX9_109 mv_X2_load (sh_plan w) (bw_kl (by decide)) (ct_X2_load (by decide) hq5) (Nat.le_of_ble_eq_true rfl) (Nat.le_of_ble_eq_true rfl) (bw_kkr ?_)
      obtain ⟨q6, hq6, h⟩ := bw_bd h
      refine rw_callV0 dX9_check_41 ln_RX9_113 mv_X2_settle (sh_plan w) (bw_kl (by decide)) (ct_X2_settle hq6) (Nat.le_of_ble_eq_true rfl) (Nat.le_of_ble_eq_true rfl) (bw_kkz (fun z7 => ?_))
      refine rw_if_eq (tgt := 57) dX9_check_44 (by decide) (fun c8 => ?_) (fun c8 => ?_)
      · have h := bw_it c8 h
        refine rw_ldc dX9_check_57 cn_RX9_232 ?_
        have h := Option.some.inj h
        subst h
        exact rw_iret dX9_check_59 ⟨rfl, rfl⟩
      · have h := bw_if c8 h
        refine rw_aload_n dX9_check_47 rfl rfl ?_
        refine rw_get dX9_check_48 fl_RX9_22 (sh_x w) (bw_kl (by decide)) rfl ?_
        refine rw_get dX9_check_51 fl_RX9_209 (sh_plan w) (bw_kl (by decide)) rfl ?_
        refine rw_if_ne (tgt := 60) dX9_check_54 (by decide) (fun c9 => ?_) (fun c9 => ?_)
        · have h := bw_if c9 h
          refine rw_aload_n dX9_check_60 rfl rfl ?_
          refine rw_iload_n dX9_check_61 rfl rfl ?_
          refine rw_iload_n dX9_check_62 rfl rfl ?_
          obtain ⟨q10, hq10, h⟩ := bw_bd h
          refine rw_callV2 dX9_check_63 ln_RX9_400 mv_X9_rightOnes (sh_x w) (bw_kl (by decide)) (ct_X9_rightOnes hq10) (Nat.le_of_ble_eq_true rfl) (Nat.le_of_ble_eq_true rfl) (bw_kki ?_)
          refine rw_istore_n dX9_check_66 rfl (by decide) ?_
          refine rw_iload_n dX9_check_67 rfl rfl ?_
          refine rw_iconst (v := 2) dX9_check_68 (by decide) ?_
          refine rw_iload_n dX9_check_69 rfl rfl ?_
          refine rw_imul dX9_check_70 ?_
          have key : RW w 7 0 0 0 0 cX9_check RX9 4 (some .int) (bw_Z w (bw_pi (out.1) out.2)) 86 [] [.int (if q10.1 = ((2 : Int32) * v1) then (if q10.1 = (M 0 10) then (0 : Int32) else (1 : Int32) + q10.1) else (1 : Int32) + q10.1)] q10.2 := by
            have h := Option.some.inj h
            subst h
            exact rw_iret dX9_check_86 ⟨rfl, rfl⟩
          refine rw_icmp_ne (tgt := 83) dX9_check_71 (by decide) (fun c11 => ?_) (fun c11 => ?_)
          · refine rw_iconst (v := 1) dX9_check_83 (by decide) ?_
            refine rw_iload_n dX9_check_84 rfl rfl ?_
            refine rw_iadd dX9_check_85 ?_
            simp only [if_neg c11] at key
            exact rw_sub rw_lz key
          · refine rw_iload_n dX9_check_74 rfl rfl ?_
            refine rw_iload_n dX9_check_75 rfl rfl ?_
            refine rw_icmp_ne (tgt := 83) dX9_check_76 (by decide) (fun c12 => ?_) (fun c12 => ?_)
            · refine rw_iconst (v := 1) dX9_check_83 (by decide) ?_
              refine rw_iload_n dX9_check_84 rfl rfl ?_
              refine rw_iadd dX9_check_85 ?_
              simp only [if_pos c11, if_neg c12] at key
              exact rw_sub rw_lz key
            · refine rw_iconst (v := 0) dX9_check_79 (by decide) ?_
              refine rw_goto (tgt := 86) dX9_check_80 (by decide) ?_
              simp only [if_pos c11, if_pos c12] at key
              exact rw_sub rw_lz key
        · have h := bw_it c9 h
          refine rw_ldc dX9_check_57 cn_RX9_232 ?_
          have h := Option.some.inj h
          subst h
          exact rw_iret dX9_check_59 ⟨rfl, rfl⟩
  · have h := bw_it c3 h
    refine rw_ldc dX9_check_20 cn_RX9_83 ?_
    have h := Option.some.inj h
    subst h
    exact rw_iret dX9_check_22 ⟨rfl, rfl⟩
set_option maxRecDepth 20000 in
set_option maxHeartbeats 1000000 in
theorem ct_X9_keep {w : WE} {M : Mem} {out : Int32 × Mem} (h : f_X9_keep M = some out) : Ct w 3 yX9_keep cX9_keep 1 (some .int) [.ref (bw_ad w 0)] M (bw_pi (out.1) out.2) := by
  refine Ct.of (own := RX9) rfl (by decide) (by intro v hv; rw [List.mem_singleton.mp hv]; first | rfl | exact bw_cat_rf _) (Nat.le_of_ble_eq_true rfl) ?_
  unfold f_X9_keep at h
  show RW w 3 0 0 0 0 cX9_keep RX9 1 (some .int) (bw_Z w (bw_pi (out.1) out.2)) 0 [(0, .ref (bw_ad w 0))] [] M
  refine rw_aload_n dX9_keep_0 rfl rfl ?_
  refine rw_get dX9_keep_1 fl_RX9_16 (sh_x w) (bw_kl (by decide)) rfl ?_
  refine rw_aload_n dX9_keep_4 rfl rfl ?_
  refine rw_get dX9_keep_5 fl_RX9_10 (sh_x w) (bw_kl (by decide)) rfl ?_
  obtain ⟨q1, hq1, h⟩ := bw_bd h
  refine rw_callV1 dX9_keep_8 ln_RX9_403 mv_X6_become (sh_image w) (bw_kl (by decide)) (ct_X6_become (by decide) (by decide) hq1) (Nat.le_of_ble_eq_true rfl) (Nat.le_of_ble_eq_true rfl) (bw_kkv ?_)
  refine rw_aload_n dX9_keep_11 rfl rfl ?_
  refine rw_iconst (v := 1) dX9_keep_12 (by decide) ?_
  refine rw_putz dX9_keep_13 fl_RX9_396 fp_9_2 (sh_x w) (bw_kl (by decide)) bw_n1 (by decide) (fun _ => rfl) (fun _ => Nat.le_of_ble_eq_true rfl) ?_
  obtain ⟨M2, hM2, h⟩ := bw_mlE h
  refine rw_m hM2.symm ?_
  refine rw_aload_n dX9_keep_16 rfl rfl ?_
  refine rw_get dX9_keep_17 fl_RX9_10 (sh_x w) (bw_kl (by decide)) rfl ?_
  refine rw_get dX9_keep_20 fl_RX9_84 (sh_now w) (bw_kl (by decide)) rfl ?_
  have h := Option.some.inj h
  subst h
  exact rw_iret dX9_keep_23 ⟨rfl, rfl⟩
set_option maxRecDepth 20000 in
set_option maxHeartbeats 1000000 in
theorem ct_X9_back {w : WE} {M : Mem} {out : Int32 × Mem} (h : f_X9_back M = some out) : Ct w 3 yX9_back cX9_back 1 (some .int) [.ref (bw_ad w 0)] M (bw_pi (out.1) out.2) := by
  refine Ct.of (own := RX9) rfl (by decide) (by intro v hv; rw [List.mem_singleton.mp hv]; first | rfl | exact bw_cat_rf _) (Nat.le_of_ble_eq_true rfl) ?_
  unfold f_X9_back at h
  show RW w 3 0 0 0 0 cX9_back RX9 1 (some .int) (bw_Z w (bw_pi (out.1) out.2)) 0 [(0, .ref (bw_ad w 0))] [] M
  refine rw_aload_n dX9_back_0 rfl rfl ?_
  refine rw_get dX9_back_1 fl_RX9_396 (sh_x w) (bw_kl (by decide)) rfl ?_
  refine rw_if_ne (tgt := 10) dX9_back_4 (by decide) (fun c1 => ?_) (fun c1 => ?_)
  · have h := bw_if c1 h
    refine rw_aload_n dX9_back_10 rfl rfl ?_
    refine rw_get dX9_back_11 fl_RX9_10 (sh_x w) (bw_kl (by decide)) rfl ?_
    refine rw_aload_n dX9_back_14 rfl rfl ?_
    refine rw_get dX9_back_15 fl_RX9_16 (sh_x w) (bw_kl (by decide)) rfl ?_
    obtain ⟨q2, hq2, h⟩ := bw_bd h
    refine rw_callV1 dX9_back_18 ln_RX9_403 mv_X6_become (sh_now w) (bw_kl (by decide)) (ct_X6_become (by decide) (by decide) hq2) (Nat.le_of_ble_eq_true rfl) (Nat.le_of_ble_eq_true rfl) (bw_kkv ?_)
    refine rw_aload_n dX9_back_21 rfl rfl ?_
    refine rw_get dX9_back_22 fl_RX9_10 (sh_x w) (bw_kl (by decide)) rfl ?_
    refine rw_get dX9_back_25 fl_RX9_84 (sh_now w) (bw_kl (by decide)) rfl ?_
    have h := Option.some.inj h
    subst h
    exact rw_iret dX9_back_28 ⟨rfl, rfl⟩
  · have h := bw_it c1 h
    refine rw_ldc dX9_back_7 cn_RX9_232 ?_
    have h := Option.some.inj h
    subst h
    exact rw_iret dX9_back_9 ⟨rfl, rfl⟩
set_option maxRecDepth 20000 in
set_option maxHeartbeats 1000000 in
theorem ct_X9_count {w : WE} {M : Mem} {v1 : Int32} {out : Int32 × Mem} (h : f_X9_count M v1 = some out) : Ct w 3 yX9_count cX9_count 2 (some .int) [.ref (bw_ad w 0), .int v1] M (bw_pi (out.1) out.2) := by
  refine Ct.of (own := RX9) rfl (by decide) (by intro v hv; simp only [List.mem_cons, List.not_mem_nil, or_false] at hv; rcases hv with rfl | rfl <;> first | rfl | exact bw_cat_rf _) (Nat.le_of_ble_eq_true rfl) ?_
  unfold f_X9_count at h
  show RW w 3 0 0 0 0 cX9_count RX9 2 (some .int) (bw_Z w (bw_pi (out.1) out.2)) 0 [(0, .ref (bw_ad w 0)), (1, .int v1)] [] M
  refine rw_iload_n dX9_count_0 rfl rfl ?_
  refine rw_case (0 : Int32) (fun c1 => ?_) (fun c1 => ?_)
  · have h := bw_it c1 h
    refine rw_tabK (tgt := 56) dX9_count_1 c1 (by decide) (by decide) rfl (by decide) ?_
    refine rw_aload_n dX9_count_56 rfl rfl ?_
    refine rw_get dX9_count_57 fl_RX9_10 (sh_x w) (bw_kl (by decide)) rfl ?_
    refine rw_get dX9_count_60 fl_RX9_84 (sh_now w) (bw_kl (by decide)) rfl ?_
    have h := Option.some.inj h
    subst h
    exact rw_iret dX9_count_63 ⟨rfl, rfl⟩
  · have h := bw_if c1 h
    refine rw_case (1 : Int32) (fun c2 => ?_) (fun c2 => ?_)
    · have h := bw_it c2 h
      refine rw_tabK (tgt := 64) dX9_count_1 c2 (by decide) (by decide) rfl (by decide) ?_
      refine rw_aload_n dX9_count_64 rfl rfl ?_
      refine rw_get dX9_count_65 fl_RX9_10 (sh_x w) (bw_kl (by decide)) rfl ?_
      refine rw_get dX9_count_68 fl_RX9_147 (sh_now w) (bw_kl (by decide)) rfl ?_
      have h := Option.some.inj h
      subst h
      exact rw_iret dX9_count_71 ⟨rfl, rfl⟩
    · have h := bw_if c2 h
      refine rw_case (2 : Int32) (fun c3 => ?_) (fun c3 => ?_)
      · have h := bw_it c3 h
        refine rw_tabK (tgt := 72) dX9_count_1 c3 (by decide) (by decide) rfl (by decide) ?_
        refine rw_aload_n dX9_count_72 rfl rfl ?_
        refine rw_get dX9_count_73 fl_RX9_10 (sh_x w) (bw_kl (by decide)) rfl ?_
        refine rw_get dX9_count_76 fl_RX9_300 (sh_now w) (bw_kl (by decide)) rfl ?_
        have h := Option.some.inj h
        subst h
        exact rw_iret dX9_count_79 ⟨rfl, rfl⟩
      · have h := bw_if c3 h
        refine rw_case (3 : Int32) (fun c4 => ?_) (fun c4 => ?_)
        · have h := bw_it c4 h
          refine rw_tabK (tgt := 80) dX9_count_1 c4 (by decide) (by decide) rfl (by decide) ?_
          refine rw_aload_n dX9_count_80 rfl rfl ?_
          refine rw_get dX9_count_81 fl_RX9_10 (sh_x w) (bw_kl (by decide)) rfl ?_
          refine rw_get dX9_count_84 fl_RX9_233 (sh_now w) (bw_kl (by decide)) rfl ?_
          have h := Option.some.inj h
          subst h
          exact rw_iret dX9_count_87 ⟨rfl, rfl⟩
        · have h := bw_if c4 h
          refine rw_case (4 : Int32) (fun c5 => ?_) (fun c5 => ?_)
          · have h := bw_it c5 h
            refine rw_tabK (tgt := 88) dX9_count_1 c5 (by decide) (by decide) rfl (by decide) ?_
            refine rw_aload_n dX9_count_88 rfl rfl ?_
            refine rw_get dX9_count_89 fl_RX9_10 (sh_x w) (bw_kl (by decide)) rfl ?_
            refine rw_iconst (v := 0) dX9_count_92 (by decide) ?_
            refine rw_aload_n dX9_count_93 rfl rfl ?_
            refine rw_get dX9_count_94 fl_RX9_10 (sh_x w) (bw_kl (by decide)) rfl ?_
            refine rw_get dX9_count_97 fl_RX9_84 (sh_now w) (bw_kl (by decide)) rfl ?_
            refine rw_iconst (v := 1) dX9_count_100 (by decide) ?_
            refine rw_isub dX9_count_101 ?_
            obtain ⟨q6, hq6, h⟩ := bw_bd h
            refine rw_callV2 dX9_count_102 ln_RX9_406 mv_X6_thickness (sh_now w) (bw_kl (by decide)) (ct_X6_thickness (by decide) hq6) (Nat.le_of_ble_eq_true rfl) (Nat.le_of_ble_eq_true rfl) (bw_kki ?_)
            have h := Option.some.inj h
            subst h
            exact rw_iret dX9_count_105 ⟨rfl, rfl⟩
          · have h := bw_if c5 h
            refine rw_case (5 : Int32) (fun c7 => ?_) (fun c7 => ?_)
            · have h := bw_it c7 h
              refine rw_tabK (tgt := 106) dX9_count_1 c7 (by decide) (by decide) rfl (by decide) ?_
              refine rw_aload_n dX9_count_106 rfl rfl ?_
              refine rw_get dX9_count_107 fl_RX9_10 (sh_x w) (bw_kl (by decide)) rfl ?_
              obtain ⟨q8, hq8, h⟩ := bw_bd h
              refine rw_callV0 dX9_count_110 ln_RX9_408 mv_X6_tiedBooks (sh_now w) (bw_kl (by decide)) (ct_X6_tiedBooks (by decide) hq8) (Nat.le_of_ble_eq_true rfl) (Nat.le_of_ble_eq_true rfl) (bw_kki ?_)
              have h := Option.some.inj h
              subst h
              exact rw_iret dX9_count_113 ⟨rfl, rfl⟩
            · have h := bw_if c7 h
              refine rw_case (6 : Int32) (fun c9 => ?_) (fun c9 => ?_)
              · have h := bw_it c9 h
                refine rw_tabK (tgt := 114) dX9_count_1 c9 (by decide) (by decide) rfl (by decide) ?_
                refine rw_aload_n dX9_count_114 rfl rfl ?_
                refine rw_get dX9_count_115 fl_RX9_10 (sh_x w) (bw_kl (by decide)) rfl ?_
                refine rw_aload_n dX9_count_118 rfl rfl ?_
                refine rw_get dX9_count_119 fl_RX9_61 (sh_x w) (bw_kl (by decide)) rfl ?_
                obtain ⟨q10, hq10, h⟩ := bw_bd h
                refine rw_callV1 dX9_count_122 ln_RX9_245 mv_X6_unlikeHeights (sh_now w) (bw_kl (by decide)) (ct_X6_unlikeHeights (by decide) hq10) (Nat.le_of_ble_eq_true rfl) (Nat.le_of_ble_eq_true rfl) (bw_kki ?_)
                have h := Option.some.inj h
                subst h
                exact rw_iret dX9_count_125 ⟨rfl, rfl⟩
              · have h := bw_if c9 h
                refine rw_case (7 : Int32) (fun c11 => ?_) (fun c11 => ?_)
                · have h := bw_it c11 h
                  refine rw_tabK (tgt := 126) dX9_count_1 c11 (by decide) (by decide) rfl (by decide) ?_
                  refine rw_aload_n dX9_count_126 rfl rfl ?_
                  refine rw_get dX9_count_127 fl_RX9_393 (sh_x w) (bw_kl (by decide)) rfl ?_
                  have h := Option.some.inj h
                  subst h
                  exact rw_iret dX9_count_130 ⟨rfl, rfl⟩
                · have h := bw_if c11 h
                  refine rw_case (8 : Int32) (fun c12 => ?_) (fun c12 => ?_)
                  · have h := bw_it c12 h
                    refine rw_tabK (tgt := 131) dX9_count_1 c12 (by decide) (by decide) rfl (by decide) ?_
                    refine rw_aload_n dX9_count_131 rfl rfl ?_
                    refine rw_get dX9_count_132 fl_RX9_44 (sh_x w) (bw_kl (by decide)) rfl ?_
                    refine rw_get dX9_count_135 fl_RX9_284 (sh_tape w) (bw_kl (by decide)) rfl ?_
                    have h := Option.some.inj h
                    subst h
                    exact rw_iret dX9_count_138 ⟨rfl, rfl⟩
                  · have h := bw_if c12 h
                    refine rw_case (9 : Int32) (fun c13 => ?_) (fun c13 => ?_)
                    · have h := bw_it c13 h
                      refine rw_tabK (tgt := 139) dX9_count_1 c13 (by decide) (by decide) rfl (by decide) ?_
                      refine rw_aload_n dX9_count_139 rfl rfl ?_
                      refine rw_get dX9_count_140 fl_RX9_10 (sh_x w) (bw_kl (by decide)) rfl ?_
                      refine rw_get dX9_count_143 fl_RX9_132 (sh_now w) (bw_kl (by decide)) rfl ?_
                      have h := Option.some.inj h
                      subst h
                      exact rw_iret dX9_count_146 ⟨rfl, rfl⟩
                    · have h := bw_if c13 h
                      refine rw_tabD (tgt := 147) dX9_count_1 (by have := lv_neT (a := 0) c1 (by decide); have := lv_neT (a := 1) c2 (by decide); have := lv_neT (a := 2) c3 (by decide); have := lv_neT (a := 3) c4 (by decide); have := lv_neT (a := 4) c5 (by decide); have := lv_neT (a := 5) c7 (by decide); have := lv_neT (a := 6) c9 (by decide); have := lv_neT (a := 7) c11 (by decide); have := lv_neT (a := 8) c12 (by decide); have := lv_neT (a := 9) c13 (by decide); omega) (by decide) ?_
                      refine rw_ldc dX9_count_147 cn_RX9_83 ?_
                      have h := Option.some.inj h
                      subst h
                      exact rw_iret dX9_count_149 ⟨rfl, rfl⟩
