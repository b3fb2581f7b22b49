set_option maxRecDepth 20000 in
set_option maxHeartbeats 1000000 in
theorem th_X7_isWord_L28 {w : WE} {M : Mem} {s1 : Nat} (hs1 : s1 < 6) {out : Int32} : ∀ (n : Nat) (v2 : Int32), f_X7_isWord_L28 M s1 n v2 = some out → RW w 5 0 0 0 0 cX7_isWord RX7 3 (some .boolean) (bw_Z w (bw_pz (out) M)) 28 [(0, .ref (bw_ad w 16)), (1, .ref (bw_oa w (1 + s1))), (2, .int v2)] [] M := by
  intro n
  induction n with
  | zero => intro v2 h; cases h
  | succ n ih =>
    intro v2 h
    rw [f_X7_isWord_L28] at h
    refine rw_iload_n dX7_isWord_28 rfl rfl ?_
    refine rw_aload_n dX7_isWord_29 rfl rfl ?_
    refine rw_callT0 dX7_isWord_30 ln_RX7_39 mv_Slen hs1 (ct_Slen hs1 rfl) (Nat.le_of_ble_eq_true rfl) (Nat.le_of_ble_eq_true rfl) (bw_kki ?_)
    refine rw_icmp_ge (tgt := 76) dX7_isWord_33 (by decide) (fun c3 => ?_) (fun c3 => ?_)
    · have h := bw_it c3 h
      refine rw_iconst (v := 1) dX7_isWord_76 (by decide) ?_
      have h := Option.some.inj h
      subst h
      exact rw_zret dX7_isWord_77 bw_n1 ⟨rfl, rfl, bw_n1⟩
    · have h := bw_if c3 h
      refine rw_aload_n dX7_isWord_36 rfl rfl ?_
      refine rw_get dX7_isWord_37 fl_RX7_28 (sh_tape w) (bw_kl (by decide)) rfl ?_
      refine rw_iload_n dX7_isWord_40 rfl rfl ?_
      refine rw_iadd dX7_isWord_41 ?_
      refine rw_aload_n dX7_isWord_42 rfl rfl ?_
      refine rw_get dX7_isWord_43 fl_RX7_15 (sh_tape w) (bw_kl (by decide)) rfl ?_
      refine rw_icmp_ge (tgt := 76) dX7_isWord_46 (by decide) (fun c4 => ?_) (fun c4 => ?_)
      · have h := bw_it c4 h
        refine rw_iconst (v := 1) dX7_isWord_76 (by decide) ?_
        have h := Option.some.inj h
        subst h
        exact rw_zret dX7_isWord_77 bw_n1 ⟨rfl, rfl, bw_n1⟩
      · have h := bw_if c4 h
        refine rw_aload_n dX7_isWord_49 rfl rfl ?_
        refine rw_get dX7_isWord_50 fl_RX7_9 (sh_tape w) (bw_kl (by decide)) rfl ?_
        refine rw_aload_n dX7_isWord_53 rfl rfl ?_
        refine rw_get dX7_isWord_54 fl_RX7_28 (sh_tape w) (bw_kl (by decide)) rfl ?_
        refine rw_iload_n dX7_isWord_57 rfl rfl ?_
        refine rw_iadd dX7_isWord_58 ?_
        obtain ⟨g5, h⟩ := bw_gd h
        refine rw_iald dX7_isWord_59 (sh_t_bytes w) (bw_kl (by decide)) (bw_in g5) ?_
        refine rw_aload_n dX7_isWord_60 rfl rfl ?_
        refine rw_iload_n dX7_isWord_61 rfl rfl ?_
        obtain ⟨q6, hq6, h⟩ := bw_bd h
        refine rw_callT1 dX7_isWord_62 ln_RX7_44 mv_Schar hs1 (ct_Schar hs1 hq6) (Nat.le_of_ble_eq_true rfl) (Nat.le_of_ble_eq_true rfl) (bw_kki ?_)
        refine rw_icmp_eq (tgt := 70) dX7_isWord_65 (by decide) (fun c7 => ?_) (fun c7 => ?_)
        · have h := bw_it c7 h
          refine rw_inc dX7_isWord_70 rfl (by decide) ?_
          refine rw_goto (tgt := 28) dX7_isWord_73 (by decide) ?_
          exact rw_sub (rw_lc rfl (rw_lc rfl (rw_lc rfl rw_lz))) (ih (v2 + 1) h)
        · have h := bw_if c7 h
          refine rw_iconst (v := 0) dX7_isWord_68 (by decide) ?_
          have h := Option.some.inj h
          subst h
          exact rw_zret dX7_isWord_69 bw_n0 ⟨rfl, rfl, bw_n0⟩
set_option maxRecDepth 20000 in
set_option maxHeartbeats 1000000 in
theorem ct_X7_isWord {w : WE} {M : Mem} {s1 : Nat} (hs1 : s1 < 6) {out : Int32} (h : f_X7_isWord M s1 = some out) : Ct w 5 yX7_isWord cX7_isWord 3 (some .boolean) [.ref (bw_ad w 16), .ref (bw_oa w (1 + s1))] M (bw_pz (out) M) := by
  refine Ct.of (own := RX7) rfl (by decide) (by intro v hv; simp only [List.mem_cons, List.not_mem_nil, or_false] at hv; rcases hv with rfl | rfl <;> first | rfl | exact bw_cat_rf _) (Nat.le_of_ble_eq_true rfl) ?_
  unfold f_X7_isWord at h
  show RW w 5 0 0 0 0 cX7_isWord RX7 3 (some .boolean) (bw_Z w (bw_pz (out) M)) 0 [(0, .ref (bw_ad w 16)), (1, .ref (bw_oa w (1 + s1)))] [] M
  refine rw_aload_n dX7_isWord_0 rfl rfl ?_
  refine rw_get dX7_isWord_1 fl_RX7_19 (sh_tape w) (bw_kl (by decide)) rfl ?_
  refine rw_iconst (v := 1) dX7_isWord_4 (by decide) ?_
  refine rw_icmp_ne (tgt := 24) dX7_isWord_5 (by decide) (fun c1 => ?_) (fun c1 => ?_)
  · have h := bw_if c1 h
    refine rw_iconst (v := 0) dX7_isWord_24 (by decide) ?_
    have h := Option.some.inj h
    subst h
    exact rw_zret dX7_isWord_25 bw_n0 ⟨rfl, rfl, bw_n0⟩
  · have h := bw_it c1 h
    refine rw_aload_n dX7_isWord_8 rfl rfl ?_
    refine rw_get dX7_isWord_9 fl_RX7_22 (sh_tape w) (bw_kl (by decide)) rfl ?_
    refine rw_aload_n dX7_isWord_12 rfl rfl ?_
    refine rw_get dX7_isWord_13 fl_RX7_28 (sh_tape w) (bw_kl (by decide)) rfl ?_
    refine rw_isub dX7_isWord_16 ?_
    refine rw_aload_n dX7_isWord_17 rfl rfl ?_
    refine rw_callT0 dX7_isWord_18 ln_RX7_39 mv_Slen hs1 (ct_Slen hs1 rfl) (Nat.le_of_ble_eq_true rfl) (Nat.le_of_ble_eq_true rfl) (bw_kki ?_)
    refine rw_icmp_eq (tgt := 26) dX7_isWord_21 (by decide) (fun c2 => ?_) (fun c2 => ?_)
    · have h := bw_it c2 h
      refine rw_iconst (v := 0) dX7_isWord_26 (by decide) ?_
      refine rw_istore_n dX7_isWord_27 rfl (by decide) ?_
      exact rw_sub (rw_lc rfl (rw_lc rfl (rw_lc rfl rw_lz))) (th_X7_isWord_L28 hs1 bw_fu (0 : Int32) h)
    · have h := bw_if c2 h
      refine rw_iconst (v := 0) dX7_isWord_24 (by decide) ?_
      have h := Option.some.inj h
      subst h
      exact rw_zret dX7_isWord_25 bw_n0 ⟨rfl, rfl, bw_n0⟩
set_option maxRecDepth 20000 in
set_option maxHeartbeats 1000000 in
theorem ct_X3_keyHere {w : WE} {M : Mem} {out : Int32} (h : f_X3_keyHere M = some out) : Ct w 6 yX3_keyHere cX3_keyHere 1 (some .int) [.ref (bw_ad w 14)] M (bw_pi (out) M) := by
  refine Ct.of (own := RX3) rfl (by decide) (by intro v hv; rw [List.mem_singleton.mp hv]; first | rfl | exact bw_cat_rf _) (Nat.le_of_ble_eq_true rfl) ?_
  unfold f_X3_keyHere at h
  show RW w 6 0 0 0 0 cX3_keyHere RX3 1 (some .int) (bw_Z w (bw_pi (out) M)) 0 [(0, .ref (bw_ad w 14))] [] M
  refine rw_aload_n dX3_keyHere_0 rfl rfl ?_
  refine rw_get dX3_keyHere_1 fl_RX3_12 (sh_reader w) (bw_kl (by decide)) rfl ?_
  refine rw_ldcS (i := 0) dX3_keyHere_4 rfl rfl ?_
  obtain ⟨q1, hq1, h⟩ := bw_bd h
  refine rw_callV1 dX3_keyHere_6 ln_RX3_62 mv_X7_isWord (sh_tape w) (bw_kl (by decide)) (ct_X7_isWord (show 0 < 6 by decide) hq1) (Nat.le_of_ble_eq_true rfl) (Nat.le_of_ble_eq_true rfl) (bw_kkz (fun z2 => ?_))
  refine rw_if_eq (tgt := 14) dX3_keyHere_9 (by decide) (fun c3 => ?_) (fun c3 => ?_)
  · have h := bw_it c3 h
    refine rw_aload_n dX3_keyHere_14 rfl rfl ?_
    refine rw_get dX3_keyHere_15 fl_RX3_12 (sh_reader w) (bw_kl (by decide)) rfl ?_
    refine rw_ldcS (i := 1) dX3_keyHere_18 rfl rfl ?_
    obtain ⟨q4, hq4, h⟩ := bw_bd h
    refine rw_callV1 dX3_keyHere_20 ln_RX3_62 mv_X7_isWord (sh_tape w) (bw_kl (by decide)) (ct_X7_isWord (show 1 < 6 by decide) hq4) (Nat.le_of_ble_eq_true rfl) (Nat.le_of_ble_eq_true rfl) (bw_kkz (fun z5 => ?_))
    refine rw_if_eq (tgt := 28) dX3_keyHere_23 (by decide) (fun c6 => ?_) (fun c6 => ?_)
    · have h := bw_it c6 h
      refine rw_aload_n dX3_keyHere_28 rfl rfl ?_
      refine rw_get dX3_keyHere_29 fl_RX3_12 (sh_reader w) (bw_kl (by decide)) rfl ?_
      refine rw_ldcS (i := 2) dX3_keyHere_32 rfl rfl ?_
      obtain ⟨q7, hq7, h⟩ := bw_bd h
      refine rw_callV1 dX3_keyHere_34 ln_RX3_62 mv_X7_isWord (sh_tape w) (bw_kl (by decide)) (ct_X7_isWord (show 2 < 6 by decide) hq7) (Nat.le_of_ble_eq_true rfl) (Nat.le_of_ble_eq_true rfl) (bw_kkz (fun z8 => ?_))
      have key : RW w 6 0 0 0 0 cX3_keyHere RX3 1 (some .int) (bw_Z w (bw_pi (out) M)) 45 [] [.int (if q7 = 0 then (-1 : Int32) else (2 : Int32))] M := by
        have h := Option.some.inj h
        subst h
        exact rw_iret dX3_keyHere_45 ⟨rfl, rfl⟩
      refine rw_if_eq (tgt := 44) dX3_keyHere_37 (by decide) (fun c9 => ?_) (fun c9 => ?_)
      · refine rw_iconst (v := -1) dX3_keyHere_44 (by decide) ?_
        simp only [if_pos c9] at key
        exact rw_sub rw_lz key
      · refine rw_iconst (v := 2) dX3_keyHere_40 (by decide) ?_
        refine rw_goto (tgt := 45) dX3_keyHere_41 (by decide) ?_
        simp only [if_neg c9] at key
        exact rw_sub rw_lz key
    · have h := bw_if c6 h
      refine rw_iconst (v := 1) dX3_keyHere_26 (by decide) ?_
      have h := Option.some.inj h
      subst h
      exact rw_iret dX3_keyHere_27 ⟨rfl, rfl⟩
  · have h := bw_if c3 h
    refine rw_iconst (v := 0) dX3_keyHere_12 (by decide) ?_
    have h := Option.some.inj h
    subst h
    exact rw_iret dX3_keyHere_13 ⟨rfl, rfl⟩
set_option maxRecDepth 20000 in
set_option maxHeartbeats 1000000 in
theorem ct_X3_readsOperand {w : WE} {M : Mem} {v1 : Int32} {out : Int32 × Mem} (h : f_X3_readsOperand M v1 = some out) : Ct w 3 yX3_readsOperand cX3_readsOperand 2 (some .boolean) [.ref (bw_ad w 14), .int v1] M (bw_pz (out.1) out.2) := by
  refine Ct.of (own := RX3) rfl (by decide) (by intro v hv; simp only [List.mem_cons, List.not_mem_nil, or_false] at hv; rcases hv with rfl | rfl <;> first | rfl | exact bw_cat_rf _) (Nat.le_of_ble_eq_true rfl) ?_
  unfold f_X3_readsOperand at h
  show RW w 3 0 0 0 0 cX3_readsOperand RX3 2 (some .boolean) (bw_Z w (bw_pz (out.1) out.2)) 0 [(0, .ref (bw_ad w 14)), (1, .int v1)] [] M
  refine rw_aload_n dX3_readsOperand_0 rfl rfl ?_
  refine rw_iload_n dX3_readsOperand_1 rfl rfl ?_
  obtain ⟨q1, hq1, h⟩ := bw_bd h
  refine rw_callV1 dX3_readsOperand_2 ln_RX3_86 mv_X3_put (sh_reader w) (bw_kl (by decide)) (ct_X3_put hq1) (Nat.le_of_ble_eq_true rfl) (Nat.le_of_ble_eq_true rfl) (bw_kkv ?_)
  refine rw_aload_n dX3_readsOperand_5 rfl rfl ?_
  refine rw_dup dX3_readsOperand_6 rfl ?_
  refine rw_get dX3_readsOperand_7 fl_RX3_26 (sh_reader w) (bw_kl (by decide)) rfl ?_
  refine rw_iconst (v := 1) dX3_readsOperand_10 (by decide) ?_
  refine rw_iadd dX3_readsOperand_11 ?_
  refine rw_puti dX3_readsOperand_12 fl_RX3_26 fp_3_3 (sh_reader w) (bw_kl (by decide)) (by decide) (fun _ => rfl) (fun _ => Nat.le_of_ble_eq_true rfl) ?_
  obtain ⟨M2, hM2, h⟩ := bw_mlE h
  refine rw_m hM2.symm ?_
  refine rw_aload_n dX3_readsOperand_15 rfl rfl ?_
  refine rw_get dX3_readsOperand_16 fl_RX3_12 (sh_reader w) (bw_kl (by decide)) rfl ?_
  obtain ⟨q3, hq3, h⟩ := bw_bd h
  refine rw_callV0 dX3_readsOperand_19 ln_RX3_39 mv_X7_advance (sh_tape w) (bw_kl (by decide)) (ct_X7_advance hq3) (Nat.le_of_ble_eq_true rfl) (Nat.le_of_ble_eq_true rfl) (bw_kkv ?_)
  refine rw_iconst (v := 1) dX3_readsOperand_22 (by decide) ?_
  have h := Option.some.inj h
  subst h
  exact rw_zret dX3_readsOperand_23 bw_n1 ⟨rfl, rfl, bw_n1⟩
set_option maxRecDepth 20000 in
set_option maxHeartbeats 1000000 in
theorem ct_X3_names {w : WE} {M : Mem} {out : Nat} (h : f_X3_names M = out) : Ct w 0 yX3_names cX3_names 1 (some (.object "java/lang/String")) [.ref (bw_ad w 14)] M (bw_pr (.ref (bw_oa w (1 + out))) M) := by
  refine Ct.of (own := RX3) rfl (by decide) (by intro v hv; rw [List.mem_singleton.mp hv]; first | rfl | exact bw_cat_rf _) (Nat.le_of_ble_eq_true rfl) ?_
  unfold f_X3_names at h
  show RW w 0 0 0 0 0 cX3_names RX3 1 (some (.object "java/lang/String")) (bw_Z w (bw_pr (.ref (bw_oa w (1 + out))) M)) 0 [(0, .ref (bw_ad w 14))] [] M
  refine rw_aload_n dX3_names_0 rfl rfl ?_
  refine rw_get dX3_names_1 fl_RX3_36 (sh_reader w) (bw_kl (by decide)) rfl ?_
  refine rw_case (0 : Int32) (fun c1 => ?_) (fun c1 => ?_)
  · have h := bw_it c1 h
    refine rw_lookup (off := 28) (tgt := 32) dX3_names_4 (by decide) (by first | (rw [c1]; done) | (rw [c1]; rfl)) (by decide) ?_
    refine rw_ldcS (i := 3) dX3_names_32 rfl rfl ?_
    subst h
    exact rw_aret dX3_names_34 (Or.inl ⟨_, rfl⟩) (Or.inr ⟨_, rfl⟩) ⟨rfl, rfl⟩
  · have h := bw_if c1 h
    refine rw_case (1 : Int32) (fun c2 => ?_) (fun c2 => ?_)
    · have h := bw_it c2 h
      refine rw_lookup (off := 31) (tgt := 35) dX3_names_4 (by decide) (by first | (rw [c2]; done) | (rw [c2]; rfl)) (by decide) ?_
      refine rw_ldcS (i := 4) dX3_names_35 rfl rfl ?_
      subst h
      exact rw_aret dX3_names_37 (Or.inl ⟨_, rfl⟩) (Or.inr ⟨_, rfl⟩) ⟨rfl, rfl⟩
    · have h := bw_if c2 h
      refine rw_lookup (off := 34) (tgt := 38) dX3_names_4 (by decide) (by first | (rw [lv_osw (a := 0) c1 (by decide), lv_osw (a := 1) c2 (by decide)]; done) | (rw [lv_osw (a := 0) c1 (by decide), lv_osw (a := 1) c2 (by decide)]; rfl)) (by decide) ?_
      refine rw_ldcS (i := 5) dX3_names_38 rfl rfl ?_
      subst h
      exact rw_aret dX3_names_40 (Or.inl ⟨_, rfl⟩) (Or.inr ⟨_, rfl⟩) ⟨rfl, rfl⟩
theorem bw_s6 (M : Mem) : f_X3_names M < 6 := by
  unfold f_X3_names
  split
  · decide
  · split <;> decide
set_option maxRecDepth 20000 in
set_option maxHeartbeats 1000000 in
theorem ct_X7_nameAmong {w : WE} {M : Mem} {s1 : Nat} (hs1 : s1 < 6) {out : Int32} (h : f_X7_nameAmong M s1 = some out) : Ct w 6 yX7_nameAmong cX7_nameAmong 2 (some .int) [.ref (bw_ad w 16), .ref (bw_oa w (1 + s1))] M (bw_pi (out) M) := by
  refine Ct.of (own := RX7) rfl (by decide) (by intro v hv; simp only [List.mem_cons, List.not_mem_nil, or_false] at hv; rcases hv with rfl | rfl <;> first | rfl | exact bw_cat_rf _) (Nat.le_of_ble_eq_true rfl) ?_
  unfold f_X7_nameAmong at h
  show RW w 6 0 0 0 0 cX7_nameAmong RX7 2 (some .int) (bw_Z w (bw_pi (out) M)) 0 [(0, .ref (bw_ad w 16)), (1, .ref (bw_oa w (1 + s1)))] [] M
  refine rw_aload_n dX7_nameAmong_0 rfl rfl ?_
  refine rw_get dX7_nameAmong_1 fl_RX7_19 (sh_tape w) (bw_kl (by decide)) rfl ?_
  refine rw_iconst (v := 1) dX7_nameAmong_4 (by decide) ?_
  refine rw_icmp_ne (tgt := 32) dX7_nameAmong_5 (by decide) (fun c1 => ?_) (fun c1 => ?_)
  · have h := bw_if c1 h
    refine rw_iconst (v := -1) dX7_nameAmong_32 (by decide) ?_
    have h := Option.some.inj h
    subst h
    exact rw_iret dX7_nameAmong_33 ⟨rfl, rfl⟩
  · have h := bw_it c1 h
    refine rw_aload_n dX7_nameAmong_8 rfl rfl ?_
    refine rw_get dX7_nameAmong_9 fl_RX7_22 (sh_tape w) (bw_kl (by decide)) rfl ?_
    refine rw_aload_n dX7_nameAmong_12 rfl rfl ?_
    refine rw_get dX7_nameAmong_13 fl_RX7_28 (sh_tape w) (bw_kl (by decide)) rfl ?_
    refine rw_isub dX7_nameAmong_16 ?_
    refine rw_iconst (v := 1) dX7_nameAmong_17 (by decide) ?_
    refine rw_icmp_ne (tgt := 32) dX7_nameAmong_18 (by decide) (fun c2 => ?_) (fun c2 => ?_)
    · have h := bw_if c2 h
      refine rw_iconst (v := -1) dX7_nameAmong_32 (by decide) ?_
      have h := Option.some.inj h
      subst h
      exact rw_iret dX7_nameAmong_33 ⟨rfl, rfl⟩
    · have h := bw_it c2 h
      refine rw_aload_n dX7_nameAmong_21 rfl rfl ?_
      refine rw_get dX7_nameAmong_22 fl_RX7_28 (sh_tape w) (bw_kl (by decide)) rfl ?_
      refine rw_aload_n dX7_nameAmong_25 rfl rfl ?_
      refine rw_get dX7_nameAmong_26 fl_RX7_15 (sh_tape w) (bw_kl (by decide)) rfl ?_
      refine rw_icmp_lt (tgt := 34) dX7_nameAmong_29 (by decide) (fun c3 => ?_) (fun c3 => ?_)
      · have h := bw_it c3 h
        refine rw_aload_n dX7_nameAmong_34 rfl rfl ?_
        refine rw_aload_n dX7_nameAmong_35 rfl rfl ?_
        refine rw_get dX7_nameAmong_36 fl_RX7_9 (sh_tape w) (bw_kl (by decide)) rfl ?_
        refine rw_aload_n dX7_nameAmong_39 rfl rfl ?_
        refine rw_get dX7_nameAmong_40 fl_RX7_28 (sh_tape w) (bw_kl (by decide)) rfl ?_
        obtain ⟨g4, h⟩ := bw_gd h
        refine rw_iald dX7_nameAmong_43 (sh_t_bytes w) (bw_kl (by decide)) (bw_in g4) ?_
        refine rw_i2c dX7_nameAmong_44 ?_
        refine rw_callT1 dX7_nameAmong_45 ln_RX7_48 mv_Sindex hs1 (ct_Sindex hs1 rfl) (Nat.le_of_ble_eq_true rfl) (Nat.le_of_ble_eq_true rfl) (bw_kki ?_)
        have h := Option.some.inj h
        subst h
        exact rw_iret dX7_nameAmong_48 ⟨rfl, rfl⟩
      · have h := bw_if c3 h
        refine rw_iconst (v := -1) dX7_nameAmong_32 (by decide) ?_
        have h := Option.some.inj h
        subst h
        exact rw_iret dX7_nameAmong_33 ⟨rfl, rfl⟩
set_option maxRecDepth 20000 in
set_option maxHeartbeats 1000000 in
theorem th_X3_readsPiece_J112 {w : WE} {R0 : Mem → Int32 → Int32 → Int32 → Option (Int32 × Mem)} {R1 : Mem → Int32 → Int32 → Option (Int32 × Mem)} {dn : Nat} {M : Mem} {v1 : Int32} {v2 : Int32} (hR0 : ∀ {M : Mem} {a b c : Int32} {out : Int32 × Mem}, R0 M a b c = some out → Ct w dn yX3_reads cX3_reads 7 (some .boolean) [.ref (bw_ad w 14), .int a, .int b, .int c] M (bw_pz (out.1) out.2)) (hR1 : ∀ {M : Mem} {a b : Int32} {out : Int32 × Mem}, R1 M a b = some out → Ct w dn yX3_readsPiece cX3_readsPiece 4 (some .boolean) [.ref (bw_ad w 14), .int a, .int b] M (bw_pz (out.1) out.2)) (hdn : 8 ≤ dn) {out : Int32 × Mem} (h : f_X3_readsPiece_J112 R0 R1 M v1 v2 = some out) : RW w (dn + 1) 0 0 0 0 cX3_readsPiece RX3 4 (some .boolean) (bw_Z w (bw_pz (out.1) out.2)) 112 [(0, .ref (bw_ad w 14)), (1, .int v1), (2, .int v2)] [] M := by
  unfold f_X3_readsPiece_J112 at h
  refine rw_aload_n dX3_readsPiece_112 rfl rfl ?_
  refine rw_get dX3_readsPiece_113 fl_RX3_12 (sh_reader w) (bw_kl (by decide)) rfl ?_
  obtain ⟨q5, hq5, h⟩ := bw_bd h
  refine rw_callV0 dX3_readsPiece_116 ln_RX3_80 mv_X7_sign (sh_tape w) (bw_kl (by decide)) (ct_X7_sign hq5) (by omega) (Nat.le_of_ble_eq_true rfl) (bw_kki ?_)
  refine rw_bipush (v := 40) dX3_readsPiece_119 (by decide) ?_
  refine rw_icmp_ne (tgt := 172) dX3_readsPiece_121 (by decide) (fun c6 => ?_) (fun c6 => ?_)
  · have h := bw_if c6 h
    refine rw_iconst (v := 0) dX3_readsPiece_172 (by decide) ?_
    have h := Option.some.inj h
    subst h
    exact rw_zret dX3_readsPiece_173 bw_n0 ⟨rfl, rfl, bw_n0⟩
  · have h := bw_it c6 h
    refine rw_iload_n dX3_readsPiece_124 rfl rfl ?_
    refine rw_bipush (v := 8) dX3_readsPiece_125 (by decide) ?_
    refine rw_icmp_ge (tgt := 172) dX3_readsPiece_127 (by decide) (fun c7 => ?_) (fun c7 => ?_)
    · have h := bw_it c7 h
      refine rw_iconst (v := 0) dX3_readsPiece_172 (by decide) ?_
      have h := Option.some.inj h
      subst h
      exact rw_zret dX3_readsPiece_173 bw_n0 ⟨rfl, rfl, bw_n0⟩
    · have h := bw_if c7 h
      refine rw_aload_n dX3_readsPiece_130 rfl rfl ?_
      refine rw_get dX3_readsPiece_131 fl_RX3_12 (sh_reader w) (bw_kl (by decide)) rfl ?_
      obtain ⟨q8, hq8, h⟩ := bw_bd h
      refine rw_callV0 dX3_readsPiece_134 ln_RX3_39 mv_X7_advance (sh_tape w) (bw_kl (by decide)) (ct_X7_advance hq8) (by omega) (Nat.le_of_ble_eq_true rfl) (bw_kkv ?_)
      refine rw_aload_n dX3_readsPiece_137 rfl rfl ?_
      refine rw_iconst (v := 0) dX3_readsPiece_138 (by decide) ?_
      refine rw_iload_n dX3_readsPiece_139 rfl rfl ?_
      refine rw_iconst (v := 1) dX3_readsPiece_140 (by decide) ?_
      refine rw_iadd dX3_readsPiece_141 ?_
      refine rw_iload_n dX3_readsPiece_142 rfl rfl ?_
      obtain ⟨q9, hq9, h⟩ := bw_bd h
      refine rw_callV3 dX3_readsPiece_143 ln_RX3_42 mv_X3_reads (sh_reader w) (bw_kl (by decide)) (hR0 hq9) (by omega) (Nat.le_of_ble_eq_true rfl) (bw_kkz (fun z10 => ?_))
      refine rw_if_eq (tgt := 161) dX3_readsPiece_146 (by decide) (fun c11 => ?_) (fun c11 => ?_)
      · have h := bw_it c11 h
        refine rw_iconst (v := 0) dX3_readsPiece_161 (by decide) ?_
        have h := Option.some.inj h
        subst h
        exact rw_zret dX3_readsPiece_162 bw_n0 ⟨rfl, rfl, bw_n0⟩
      · have h := bw_if c11 h
        refine rw_aload_n dX3_readsPiece_149 rfl rfl ?_
        refine rw_get dX3_readsPiece_150 fl_RX3_12 (sh_reader w) (bw_kl (by decide)) rfl ?_
        obtain ⟨q12, hq12, h⟩ := bw_bd h
        refine rw_callV0 dX3_readsPiece_153 ln_RX3_80 mv_X7_sign (sh_tape w) (bw_kl (by decide)) (ct_X7_sign hq12) (by omega) (Nat.le_of_ble_eq_true rfl) (bw_kki ?_)
        refine rw_bipush (v := 41) dX3_readsPiece_156 (by decide) ?_
        refine rw_icmp_eq (tgt := 163) dX3_readsPiece_158 (by decide) (fun c13 => ?_) (fun c13 => ?_)
        · have h := bw_it c13 h
          refine rw_aload_n dX3_readsPiece_163 rfl rfl ?_
          refine rw_get dX3_readsPiece_164 fl_RX3_12 (sh_reader w) (bw_kl (by decide)) rfl ?_
          obtain ⟨q14, hq14, h⟩ := bw_bd h
          refine rw_callV0 dX3_readsPiece_167 ln_RX3_39 mv_X7_advance (sh_tape w) (bw_kl (by decide)) (ct_X7_advance hq14) (by omega) (Nat.le_of_ble_eq_true rfl) (bw_kkv ?_)
          refine rw_iconst (v := 1) dX3_readsPiece_170 (by decide) ?_
          have h := Option.some.inj h
          subst h
          exact rw_zret dX3_readsPiece_171 bw_n1 ⟨rfl, rfl, bw_n1⟩
        · have h := bw_if c13 h
          refine rw_iconst (v := 0) dX3_readsPiece_161 (by decide) ?_
          have h := Option.some.inj h
          subst h
          exact rw_zret dX3_readsPiece_162 bw_n0 ⟨rfl, rfl, bw_n0⟩
set_option maxRecDepth 20000 in
set_option maxHeartbeats 1000000 in
theorem ct_X3_readsPiece {w : WE} {R0 : Mem → Int32 → Int32 → Int32 → Option (Int32 × Mem)} {R1 : Mem → Int32 → Int32 → Option (Int32 × Mem)} {dn : Nat} {M : Mem} {v1 : Int32} {v2 : Int32} (hR0 : ∀ {M : Mem} {a b c : Int32} {out : Int32 × Mem}, R0 M a b c = some out → Ct w dn yX3_reads cX3_reads 7 (some .boolean) [.ref (bw_ad w 14), .int a, .int b, .int c] M (bw_pz (out.1) out.2)) (hR1 : ∀ {M : Mem} {a b : Int32} {out : Int32 × Mem}, R1 M a b = some out → Ct w dn yX3_readsPiece cX3_readsPiece 4 (some .boolean) [.ref (bw_ad w 14), .int a, .int b] M (bw_pz (out.1) out.2)) (hdn : 8 ≤ dn) {out : Int32 × Mem} (h : f_X3_readsPiece R0 R1 M v1 v2 = some out) : Ct w (dn + 1) yX3_readsPiece cX3_readsPiece 4 (some .boolean) [.ref (bw_ad w 14), .int v1, .int v2] M (bw_pz (out.1) out.2) := by
  refine Ct.of (own := RX3) rfl (by decide) (by intro v hv; simp only [List.mem_cons, List.not_mem_nil, or_false] at hv; rcases hv with rfl | rfl | rfl <;> first | rfl | exact bw_cat_rf _) (Nat.le_of_ble_eq_true rfl) ?_
  unfold f_X3_readsPiece at h
  show RW w (dn + 1) 0 0 0 0 cX3_readsPiece RX3 4 (some .boolean) (bw_Z w (bw_pz (out.1) out.2)) 0 [(0, .ref (bw_ad w 14)), (1, .int v1), (2, .int v2)] [] M
  refine rw_aload_n dX3_readsPiece_0 rfl rfl ?_
  refine rw_get dX3_readsPiece_1 fl_RX3_12 (sh_reader w) (bw_kl (by decide)) rfl ?_
  refine rw_get dX3_readsPiece_4 fl_RX3_46 (sh_tape w) (bw_kl (by decide)) rfl ?_
  refine rw_iconst (v := 2) dX3_readsPiece_7 (by decide) ?_
  refine rw_icmp_ne (tgt := 23) dX3_readsPiece_8 (by decide) (fun c1 => ?_) (fun c1 => ?_)
  · have h := bw_if c1 h
    refine rw_aload_n dX3_readsPiece_23 rfl rfl ?_
    refine rw_get dX3_readsPiece_24 fl_RX3_12 (sh_reader w) (bw_kl (by decide)) rfl ?_
    refine rw_get dX3_readsPiece_27 fl_RX3_46 (sh_tape w) (bw_kl (by decide)) rfl ?_
    refine rw_iconst (v := 1) dX3_readsPiece_30 (by decide) ?_
    refine rw_icmp_ne (tgt := 66) dX3_readsPiece_31 (by decide) (fun c2 => ?_) (fun c2 => ?_)
    · have h := bw_if c2 h
      refine rw_aload_n dX3_readsPiece_66 rfl rfl ?_
      refine rw_get dX3_readsPiece_67 fl_RX3_12 (sh_reader w) (bw_kl (by decide)) rfl ?_
      obtain ⟨q3, hq3, h⟩ := bw_bd h
      refine rw_callV0 dX3_readsPiece_70 ln_RX3_80 mv_X7_sign (sh_tape w) (bw_kl (by decide)) (ct_X7_sign hq3) (by omega) (Nat.le_of_ble_eq_true rfl) (bw_kki ?_)
      refine rw_bipush (v := 33) dX3_readsPiece_73 (by decide) ?_
      refine rw_icmp_ne (tgt := 112) dX3_readsPiece_75 (by decide) (fun c4 => ?_) (fun c4 => ?_)
      · have h := bw_if c4 h
        exact rw_sub (rw_lc rfl (rw_lc rfl (rw_lc rfl rw_lz))) (th_X3_readsPiece_J112 hR0 hR1 hdn h)
      · have h := bw_it c4 h
        refine rw_iload_n dX3_readsPiece_78 rfl rfl ?_
        refine rw_bipush (v := 8) dX3_readsPiece_79 (by decide) ?_
        refine rw_icmp_ge (tgt := 112) dX3_readsPiece_81 (by decide) (fun c15 => ?_) (fun c15 => ?_)
        · have h := bw_it c15 h
          exact rw_sub (rw_lc rfl (rw_lc rfl (rw_lc rfl rw_lz))) (th_X3_readsPiece_J112 hR0 hR1 hdn h)
        · have h := bw_if c15 h
          refine rw_aload_n dX3_readsPiece_84 rfl rfl ?_
          refine rw_get dX3_readsPiece_85 fl_RX3_12 (sh_reader w) (bw_kl (by decide)) rfl ?_
          obtain ⟨q16, hq16, h⟩ := bw_bd h
          refine rw_callV0 dX3_readsPiece_88 ln_RX3_39 mv_X7_advance (sh_tape w) (bw_kl (by decide)) (ct_X7_advance hq16) (by omega) (Nat.le_of_ble_eq_true rfl) (bw_kkv ?_)
          refine rw_aload_n dX3_readsPiece_91 rfl rfl ?_
          refine rw_iload_n dX3_readsPiece_92 rfl rfl ?_
          refine rw_iload_n dX3_readsPiece_93 rfl rfl ?_
          refine rw_iconst (v := 1) dX3_readsPiece_94 (by decide) ?_
          refine rw_iadd dX3_readsPiece_95 ?_
          obtain ⟨q17, hq17, h⟩ := bw_bd h
          refine rw_callV2 dX3_readsPiece_96 ln_RX3_76 mv_X3_readsPiece (sh_reader w) (bw_kl (by decide)) (hR1 hq17) (by omega) (Nat.le_of_ble_eq_true rfl) (bw_kkz (fun z18 => ?_))
          refine rw_if_ne (tgt := 104) dX3_readsPiece_99 (by decide) (fun c19 => ?_) (fun c19 => ?_)
          · have h := bw_if c19 h
            refine rw_aload_n dX3_readsPiece_104 rfl rfl ?_
            refine rw_bipush (v := -33) dX3_readsPiece_105 (by decide) ?_
            obtain ⟨q20, hq20, h⟩ := bw_bd h
            refine rw_callV1 dX3_readsPiece_107 ln_RX3_86 mv_X3_put (sh_reader w) (bw_kl (by decide)) (ct_X3_put hq20) (by omega) (Nat.le_of_ble_eq_true rfl) (bw_kkv ?_)
            refine rw_iconst (v := 1) dX3_readsPiece_110 (by decide) ?_
            have h := Option.some.inj h
            subst h
            exact rw_zret dX3_readsPiece_111 bw_n1 ⟨rfl, rfl, bw_n1⟩
          · have h := bw_it c19 h
            refine rw_iconst (v := 0) dX3_readsPiece_102 (by decide) ?_
            have h := Option.some.inj h
            subst h
            exact rw_zret dX3_readsPiece_103 bw_n0 ⟨rfl, rfl, bw_n0⟩
    · have h := bw_it c2 h
      refine rw_aload_n dX3_readsPiece_34 rfl rfl ?_
      refine rw_get dX3_readsPiece_35 fl_RX3_12 (sh_reader w) (bw_kl (by decide)) rfl ?_
      refine rw_aload_n dX3_readsPiece_38 rfl rfl ?_
      refine rw_callV0 dX3_readsPiece_39 ln_RX3_97 mv_X3_names (sh_reader w) (bw_kl (by decide)) (ct_X3_names rfl) (by omega) (Nat.le_of_ble_eq_true rfl) (bw_kkr ?_)
      obtain ⟨q21, hq21, h⟩ := bw_bd h
      refine rw_callV1 dX3_readsPiece_42 ln_RX3_101 mv_X7_nameAmong (sh_tape w) (bw_kl (by decide)) (ct_X7_nameAmong (bw_s6 _) hq21) (by omega) (Nat.le_of_ble_eq_true rfl) (bw_kki ?_)
      refine rw_istore_n dX3_readsPiece_45 rfl (by decide) ?_
      refine rw_iload_n dX3_readsPiece_46 rfl rfl ?_
      refine rw_if_lt (tgt := 64) dX3_readsPiece_47 (by decide) (fun c22 => ?_) (fun c22 => ?_)
      · have h := bw_it c22 h
        refine rw_iconst (v := 0) dX3_readsPiece_64 (by decide) ?_
        have h := Option.some.inj h
        subst h
        exact rw_zret dX3_readsPiece_65 bw_n0 ⟨rfl, rfl, bw_n0⟩
      · have h := bw_if c22 h
        refine rw_aload_n dX3_readsPiece_50 rfl rfl ?_
        refine rw_iconst (v := -1) dX3_readsPiece_51 (by decide) ?_
        refine rw_iload_n dX3_readsPiece_52 rfl rfl ?_
        refine rw_isub dX3_readsPiece_53 ?_
        obtain ⟨q23, hq23, h⟩ := bw_bd h
        refine rw_callV1 dX3_readsPiece_54 ln_RX3_93 mv_X3_readsOperand (sh_reader w) (bw_kl (by decide)) (ct_X3_readsOperand hq23) (by omega) (Nat.le_of_ble_eq_true rfl) (bw_kkz (fun z24 => ?_))
        have key : RW w (dn + 1) 0 0 0 0 cX3_readsPiece RX3 4 (some .boolean) (bw_Z w (bw_pz (out.1) out.2)) 65 [] [.int (if q23.1 = 0 then (0 : Int32) else (1 : Int32))] q23.2 := by
          have h := Option.some.inj h
          subst h
          exact rw_zret dX3_readsPiece_65 (by (repeat' split) <;> first | exact bw_n0 | exact bw_n1) ⟨rfl, rfl, (by (repeat' split) <;> first | exact bw_n0 | exact bw_n1)⟩
        refine rw_if_eq (tgt := 64) dX3_readsPiece_57 (by decide) (fun c25 => ?_) (fun c25 => ?_)
        · refine rw_iconst (v := 0) dX3_readsPiece_64 (by decide) ?_
          simp only [if_pos c25] at key
          exact rw_sub rw_lz key
        · refine rw_iconst (v := 1) dX3_readsPiece_60 (by decide) ?_
          refine rw_goto (tgt := 65) dX3_readsPiece_61 (by decide) ?_
          simp only [if_neg c25] at key
          exact rw_sub rw_lz key
  · have h := bw_it c1 h
    refine rw_aload_n dX3_readsPiece_11 rfl rfl ?_
    refine rw_aload_n dX3_readsPiece_12 rfl rfl ?_
    refine rw_get dX3_readsPiece_13 fl_RX3_12 (sh_reader w) (bw_kl (by decide)) rfl ?_
    obtain ⟨q26, hq26, h⟩ := bw_bd h
    refine rw_callV0 dX3_readsPiece_16 ln_RX3_90 mv_X7_number (sh_tape w) (bw_kl (by decide)) (ct_X7_number hq26) (by omega) (Nat.le_of_ble_eq_true rfl) (bw_kki ?_)
    obtain ⟨q27, hq27, h⟩ := bw_bd h
    refine rw_callV1 dX3_readsPiece_19 ln_RX3_93 mv_X3_readsOperand (sh_reader w) (bw_kl (by decide)) (ct_X3_readsOperand hq27) (by omega) (Nat.le_of_ble_eq_true rfl) (bw_kkz (fun z28 => ?_))
    have h := Option.some.inj h
    subst h
    exact rw_zret dX3_readsPiece_22 z28 ⟨rfl, rfl, z28⟩
set_option maxRecDepth 20000 in
set_option maxHeartbeats 1000000 in
theorem th_X3_reads_L42 {w : WE} {R0 : Mem → Int32 → Int32 → Int32 → Option (Int32 × Mem)} {R1 : Mem → Int32 → Int32 → Option (Int32 × Mem)} {dn : Nat} {v1 : Int32} {v2 : Int32} {v3 : Int32} {v4 : Int32} (hR0 : ∀ {M : Mem} {a b c : Int32} {out : Int32 × Mem}, R0 M a b c = some out → Ct w dn yX3_reads cX3_reads 7 (some .boolean) [.ref (bw_ad w 14), .int a, .int b, .int c] M (bw_pz (out.1) out.2)) (hR1 : ∀ {M : Mem} {a b : Int32} {out : Int32 × Mem}, R1 M a b = some out → Ct w dn yX3_readsPiece cX3_readsPiece 4 (some .boolean) [.ref (bw_ad w 14), .int a, .int b] M (bw_pz (out.1) out.2)) (hdn : 8 ≤ dn) {out : Int32 × Mem} : ∀ (n : Nat) (v5 : Int32) (M : Mem), f_X3_reads_L42 R0 R1 v1 v2 v3 v4 n v5 M = some out → RW w (dn + 1) 0 0 0 0 cX3_reads RX3 7 (some .boolean) (bw_Z w (bw_pz (out.1) out.2)) 42 [(0, .ref (bw_ad w 14)), (1, .int v1), (2, .int v2), (3, .int v3), (4, .int v4), (5, .int v5)] [] M := by
  intro n
  induction n with
  | zero => intro v5 M h; cases h
  | succ n ih =>
    intro v5 M h
    rw [f_X3_reads_L42] at h
    refine rw_iload dX3_reads_42 rfl ?_
    refine rw_iload dX3_reads_44 rfl ?_
    refine rw_icmp_ge (tgt := 106) dX3_reads_46 (by decide) (fun c6 => ?_) (fun c6 => ?_)
    · have h := bw_it c6 h
      refine rw_iconst (v := 1) dX3_reads_106 (by decide) ?_
      have h := Option.some.inj h
      subst h
      exact rw_zret dX3_reads_107 bw_n1 ⟨rfl, rfl, bw_n1⟩
    · have h := bw_if c6 h
      refine rw_iload_n dX3_reads_49 rfl rfl ?_
      refine rw_aload_n dX3_reads_50 rfl rfl ?_
      refine rw_get dX3_reads_51 fl_RX3_12 (sh_reader w) (bw_kl (by decide)) rfl ?_
      obtain ⟨q7, hq7, h⟩ := bw_bd h
      refine rw_callV0 dX3_reads_54 ln_RX3_80 mv_X7_sign (sh_tape w) (bw_kl (by decide)) (ct_X7_sign hq7) (by omega) (Nat.le_of_ble_eq_true rfl) (bw_kki ?_)
      refine rw_callS2 dX3_reads_57 ln_RX3_83 ms_X3_isJoint (ct_X3_isJoint rfl) (by omega) (Nat.le_of_ble_eq_true rfl) (bw_kkz (fun z8 => ?_))
      refine rw_if_eq (tgt := 106) dX3_reads_60 (by decide) (fun c9 => ?_) (fun c9 => ?_)
      · have h := bw_it c9 h
        refine rw_iconst (v := 1) dX3_reads_106 (by decide) ?_
        have h := Option.some.inj h
        subst h
        exact rw_zret dX3_reads_107 bw_n1 ⟨rfl, rfl, bw_n1⟩
      · have h := bw_if c9 h
        refine rw_aload_n dX3_reads_63 rfl rfl ?_
        refine rw_get dX3_reads_64 fl_RX3_12 (sh_reader w) (bw_kl (by decide)) rfl ?_
        obtain ⟨q10, hq10, h⟩ := bw_bd h
        refine rw_callV0 dX3_reads_67 ln_RX3_80 mv_X7_sign (sh_tape w) (bw_kl (by decide)) (ct_X7_sign hq10) (by omega) (Nat.le_of_ble_eq_true rfl) (bw_kki ?_)
        refine rw_istore dX3_reads_70 (by decide) ?_
        refine rw_aload_n dX3_reads_72 rfl rfl ?_
        refine rw_get dX3_reads_73 fl_RX3_12 (sh_reader w) (bw_kl (by decide)) rfl ?_
        obtain ⟨q11, hq11, h⟩ := bw_bd h
        refine rw_callV0 dX3_reads_76 ln_RX3_39 mv_X7_advance (sh_tape w) (bw_kl (by decide)) (ct_X7_advance hq11) (by omega) (Nat.le_of_ble_eq_true rfl) (bw_kkv ?_)
        refine rw_aload_n dX3_reads_79 rfl rfl ?_
        refine rw_iload_n dX3_reads_80 rfl rfl ?_
        refine rw_iconst (v := 1) dX3_reads_81 (by decide) ?_
        refine rw_iadd dX3_reads_82 ?_
        refine rw_iload_n dX3_reads_83 rfl rfl ?_
        refine rw_iload_n dX3_reads_84 rfl rfl ?_
        obtain ⟨q12, hq12, h⟩ := bw_bd h
        refine rw_callV3 dX3_reads_85 ln_RX3_42 mv_X3_reads (sh_reader w) (bw_kl (by decide)) (hR0 hq12) (by omega) (Nat.le_of_ble_eq_true rfl) (bw_kkz (fun z13 => ?_))
        refine rw_if_ne (tgt := 93) dX3_reads_88 (by decide) (fun c14 => ?_) (fun c14 => ?_)
        · have h := bw_if c14 h
          refine rw_aload_n dX3_reads_93 rfl rfl ?_
          refine rw_iload dX3_reads_94 rfl ?_
          refine rw_ineg dX3_reads_96 ?_
          obtain ⟨q15, hq15, h⟩ := bw_bd h
          refine rw_callV1 dX3_reads_97 ln_RX3_86 mv_X3_put (sh_reader w) (bw_kl (by decide)) (ct_X3_put hq15) (by omega) (Nat.le_of_ble_eq_true rfl) (bw_kkv ?_)
          refine rw_inc dX3_reads_100 rfl (by decide) ?_
          refine rw_goto (tgt := 42) dX3_reads_103 (by decide) ?_
          exact rw_sub (rw_lc rfl (rw_lc rfl (rw_lc rfl (rw_lc rfl (rw_lc rfl (rw_lc rfl rw_lz)))))) (ih (v5 + 1) q15 h)
        · have h := bw_it c14 h
          refine rw_iconst (v := 0) dX3_reads_91 (by decide) ?_
          have h := Option.some.inj h
          subst h
          exact rw_zret dX3_reads_92 bw_n0 ⟨rfl, rfl, bw_n0⟩
set_option maxRecDepth 20000 in
set_option maxHeartbeats 1000000 in
theorem th_X3_reads_J37 {w : WE} {R0 : Mem → Int32 → Int32 → Int32 → Option (Int32 × Mem)} {R1 : Mem → Int32 → Int32 → Option (Int32 × Mem)} {dn : Nat} {M : Mem} {v1 : Int32} {v2 : Int32} {v3 : Int32} {s0 : Int32} (hR0 : ∀ {M : Mem} {a b c : Int32} {out : Int32 × Mem}, R0 M a b c = some out → Ct w dn yX3_reads cX3_reads 7 (some .boolean) [.ref (bw_ad w 14), .int a, .int b, .int c] M (bw_pz (out.1) out.2)) (hR1 : ∀ {M : Mem} {a b : Int32} {out : Int32 × Mem}, R1 M a b = some out → Ct w dn yX3_readsPiece cX3_readsPiece 4 (some .boolean) [.ref (bw_ad w 14), .int a, .int b] M (bw_pz (out.1) out.2)) (hdn : 8 ≤ dn) {out : Int32 × Mem} (h : f_X3_reads_J37 R0 R1 M v1 v2 v3 s0 = some out) : RW w (dn + 1) 0 0 0 0 cX3_reads RX3 7 (some .boolean) (bw_Z w (bw_pz (out.1) out.2)) 37 [(0, .ref (bw_ad w 14)), (1, .int v1), (2, .int v2), (3, .int v3)] [.int s0] M := by
  unfold f_X3_reads_J37 at h
  refine rw_istore dX3_reads_37 (by decide) ?_
  refine rw_iconst (v := 0) dX3_reads_39 (by decide) ?_
  refine rw_istore dX3_reads_40 (by decide) ?_
  exact rw_sub (rw_lc rfl (rw_lc rfl (rw_lc rfl (rw_lc rfl (rw_lc rfl (rw_lc rfl rw_lz)))))) (th_X3_reads_L42 hR0 hR1 hdn bw_fu (0 : Int32) M h)
set_option maxRecDepth 20000 in
set_option maxHeartbeats 1000000 in
theorem ct_X3_reads {w : WE} {R0 : Mem → Int32 → Int32 → Int32 → Option (Int32 × Mem)} {R1 : Mem → Int32 → Int32 → Option (Int32 × Mem)} {dn : Nat} {M : Mem} {v1 : Int32} {v2 : Int32} {v3 : Int32} (hR0 : ∀ {M : Mem} {a b c : Int32} {out : Int32 × Mem}, R0 M a b c = some out → Ct w dn yX3_reads cX3_reads 7 (some .boolean) [.ref (bw_ad w 14), .int a, .int b, .int c] M (bw_pz (out.1) out.2)) (hR1 : ∀ {M : Mem} {a b : Int32} {out : Int32 × Mem}, R1 M a b = some out → Ct w dn yX3_readsPiece cX3_readsPiece 4 (some .boolean) [.ref (bw_ad w 14), .int a, .int b] M (bw_pz (out.1) out.2)) (hdn : 8 ≤ dn) {out : Int32 × Mem} (h : f_X3_reads R0 R1 M v1 v2 v3 = some out) : Ct w (dn + 1) yX3_reads cX3_reads 7 (some .boolean) [.ref (bw_ad w 14), .int v1, .int v2, .int v3] M (bw_pz (out.1) out.2) := by
  refine Ct.of (own := RX3) rfl (by decide) (by intro v hv; simp only [List.mem_cons, List.not_mem_nil, or_false] at hv; rcases hv with rfl | rfl | rfl | rfl <;> first | rfl | exact bw_cat_rf _) (Nat.le_of_ble_eq_true rfl) ?_
  unfold f_X3_reads at h
  show RW w (dn + 1) 0 0 0 0 cX3_reads RX3 7 (some .boolean) (bw_Z w (bw_pz (out.1) out.2)) 0 [(0, .ref (bw_ad w 14)), (1, .int v1), (2, .int v2), (3, .int v3)] [] M
  refine rw_iload_n dX3_reads_0 rfl rfl ?_
  refine rw_iconst (v := 5) dX3_reads_1 (by decide) ?_
  refine rw_icmp_lt (tgt := 12) dX3_reads_2 (by decide) (fun c1 => ?_) (fun c1 => ?_)
  · have h := bw_it c1 h
    refine rw_aload_n dX3_reads_12 rfl rfl ?_
    refine rw_iload_n dX3_reads_13 rfl rfl ?_
    refine rw_iconst (v := 1) dX3_reads_14 (by decide) ?_
    refine rw_iadd dX3_reads_15 ?_
    refine rw_iload_n dX3_reads_16 rfl rfl ?_
    refine rw_iload_n dX3_reads_17 rfl rfl ?_
    obtain ⟨q2, hq2, h⟩ := bw_bd h
    refine rw_callV3 dX3_reads_18 ln_RX3_42 mv_X3_reads (sh_reader w) (bw_kl (by decide)) (hR0 hq2) (by omega) (Nat.le_of_ble_eq_true rfl) (bw_kkz (fun z3 => ?_))
    refine rw_if_ne (tgt := 26) dX3_reads_21 (by decide) (fun c4 => ?_) (fun c4 => ?_)
    · have h := bw_if c4 h
      refine rw_iload_n dX3_reads_26 rfl rfl ?_
      refine rw_iconst (v := 2) dX3_reads_27 (by decide) ?_
      have key : RW w (dn + 1) 0 0 0 0 cX3_reads RX3 7 (some .boolean) (bw_Z w (bw_pz (out.1) out.2)) 37 [(0, .ref (bw_ad w 14)), (1, .int v1), (2, .int v2), (3, .int v3)] [.int (if v1 = (2 : Int32) then (1 : Int32) else (96 : Int32))] q2.2 := by
        exact rw_sub (rw_lc rfl (rw_lc rfl (rw_lc rfl (rw_lc rfl rw_lz)))) (th_X3_reads_J37 hR0 hR1 hdn h)
      refine rw_icmp_ne (tgt := 35) dX3_reads_28 (by decide) (fun c5 => ?_) (fun c5 => ?_)
      · refine rw_bipush (v := 96) dX3_reads_35 (by decide) ?_
        simp only [if_neg c5] at key
        exact rw_sub (rw_lc rfl (rw_lc rfl (rw_lc rfl (rw_lc rfl rw_lz)))) key
      · refine rw_iconst (v := 1) dX3_reads_31 (by decide) ?_
        refine rw_goto (tgt := 37) dX3_reads_32 (by decide) ?_
        simp only [if_pos c5] at key
        exact rw_sub (rw_lc rfl (rw_lc rfl (rw_lc rfl (rw_lc rfl rw_lz)))) key
    · have h := bw_it c4 h
      refine rw_iconst (v := 0) dX3_reads_24 (by decide) ?_
      have h := Option.some.inj h
      subst h
      exact rw_zret dX3_reads_25 bw_n0 ⟨rfl, rfl, bw_n0⟩
  · have h := bw_if c1 h
    refine rw_aload_n dX3_reads_5 rfl rfl ?_
    refine rw_iload_n dX3_reads_6 rfl rfl ?_
    refine rw_iload_n dX3_reads_7 rfl rfl ?_
    obtain ⟨q16, hq16, h⟩ := bw_bd h
    refine rw_callV2 dX3_reads_8 ln_RX3_76 mv_X3_readsPiece (sh_reader w) (bw_kl (by decide)) (hR1 hq16) (by omega) (Nat.le_of_ble_eq_true rfl) (bw_kkz (fun z17 => ?_))
    have h := Option.some.inj h
    subst h
    exact rw_zret dX3_reads_11 z17 ⟨rfl, rfl, z17⟩
theorem ct_rd {w : WE} : ∀ n : Nat, (∀ {M : Mem} {a b c : Int32} {out : Int32 × Mem}, (f_X3_rd n).1 M a b c = some out → Ct w (8 + n) yX3_reads cX3_reads 7 (some .boolean) [.ref (bw_ad w 14), .int a, .int b, .int c] M (bw_pz (out.1) out.2)) ∧ (∀ {M : Mem} {a b : Int32} {out : Int32 × Mem}, (f_X3_rd n).2 M a b = some out → Ct w (8 + n) yX3_readsPiece cX3_readsPiece 4 (some .boolean) [.ref (bw_ad w 14), .int a, .int b] M (bw_pz (out.1) out.2))
  | 0 => ⟨fun h => (by cases h), fun h => (by cases h)⟩
  | n + 1 => by
    obtain ⟨h0, h1⟩ := ct_rd (w := w) n
    exact ⟨fun h => ct_X3_reads h0 h1 (by omega) h, fun h => ct_X3_readsPiece h0 h1 (by omega) h⟩
