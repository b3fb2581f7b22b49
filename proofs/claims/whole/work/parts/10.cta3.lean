set_option maxRecDepth 20000 in
set_option maxHeartbeats 1000000 in
theorem th_X9_isUnder_L4 {w : WE} {M : Mem} {v1 : Int32} {out : Int32} : ∀ (n : Nat) (v2 : Int32) (v3 : Int32), f_X9_isUnder_L4 M v1 n v2 v3 = some out → RW w 2 0 0 0 0 cX9_isUnder RX9 4 (some .boolean) (bw_Z w (bw_pz (out) M)) 4 [(1, .int v1), (2, .int v2), (3, .int v3)] [] M := by
  intro n
  induction n with
  | zero => intro v2 v3 h; cases h
  | succ n ih =>
    intro v2 v3 h
    rw [f_X9_isUnder_L4] at h
    refine rw_iload_n dX9_isUnder_4 rfl rfl ?_
    refine rw_gabove dX9_isUnder_5 fs_above ?_
    refine rw_ablen dX9_isUnder_8 ?_
    refine rw_icmp_ge (tgt := 38) dX9_isUnder_9 (by decide) (fun c1 => ?_) (fun c1 => ?_)
    · have h := bw_it c1 h
      refine rw_iconst (v := 0) dX9_isUnder_38 (by decide) ?_
      have h := Option.some.inj h
      subst h
      exact rw_zret dX9_isUnder_39 bw_n0 ⟨rfl, rfl, bw_n0⟩
    · have h := bw_if c1 h
      refine rw_iload_n dX9_isUnder_12 rfl rfl ?_
      refine rw_callS1 dX9_isUnder_13 ln_RX9_144 ms_X9_isKind (ct_X9_isKind rfl) (Nat.le_of_ble_eq_true rfl) (Nat.le_of_ble_eq_true rfl) (bw_kkz (fun z2 => ?_))
      refine rw_if_eq (tgt := 38) dX9_isUnder_16 (by decide) (fun c3 => ?_) (fun c3 => ?_)
      · have h := bw_it c3 h
        refine rw_iconst (v := 0) dX9_isUnder_38 (by decide) ?_
        have h := Option.some.inj h
        subst h
        exact rw_zret dX9_isUnder_39 bw_n0 ⟨rfl, rfl, bw_n0⟩
      · have h := bw_if c3 h
        refine rw_iload_n dX9_isUnder_19 rfl rfl ?_
        refine rw_iload_n dX9_isUnder_20 rfl rfl ?_
        refine rw_icmp_ne (tgt := 26) dX9_isUnder_21 (by decide) (fun c4 => ?_) (fun c4 => ?_)
        · have h := bw_if c4 h
          refine rw_gabove dX9_isUnder_26 fs_above ?_
          refine rw_iload_n dX9_isUnder_29 rfl rfl ?_
          obtain ⟨g5, h⟩ := bw_gd h
          refine rw_abld dX9_isUnder_30 (bw_in g5) ?_
          refine rw_istore_n dX9_isUnder_31 rfl (by decide) ?_
          refine rw_inc dX9_isUnder_32 rfl (by decide) ?_
          refine rw_goto (tgt := 4) dX9_isUnder_35 (by decide) ?_
          exact rw_sub (rw_lc rfl (rw_lc rfl (rw_lc rfl rw_lz))) (ih (bw_ab v2.toNatClampNeg) (v3 + 1) h)
        · have h := bw_it c4 h
          refine rw_iconst (v := 1) dX9_isUnder_24 (by decide) ?_
          have h := Option.some.inj h
          subst h
          exact rw_zret dX9_isUnder_25 bw_n1 ⟨rfl, rfl, bw_n1⟩
set_option maxRecDepth 20000 in
set_option maxHeartbeats 1000000 in
theorem ct_X9_isUnder {w : WE} {M : Mem} {v0 : Int32} {v1 : Int32} {out : Int32} (h : f_X9_isUnder M v0 v1 = some out) : Ct w 2 yX9_isUnder cX9_isUnder 4 (some .boolean) [.int v0, .int v1] M (bw_pz (out) M) := by
  refine Ct.of (own := RX9) rfl (by decide) (by intro v hv; simp only [List.mem_cons, List.not_mem_nil, or_false] at hv; rcases hv with rfl | rfl <;> first | rfl | exact bw_cat_rf _) (Nat.le_of_ble_eq_true rfl) ?_
  unfold f_X9_isUnder at h
  show RW w 2 0 0 0 0 cX9_isUnder RX9 4 (some .boolean) (bw_Z w (bw_pz (out) M)) 0 [(0, .int v0), (1, .int v1)] [] M
  refine rw_iload_n dX9_isUnder_0 rfl rfl ?_
  refine rw_istore_n dX9_isUnder_1 rfl (by decide) ?_
  refine rw_iconst (v := 0) dX9_isUnder_2 (by decide) ?_
  refine rw_istore_n dX9_isUnder_3 rfl (by decide) ?_
  exact rw_sub (rw_lc rfl (rw_lc rfl (rw_lc rfl rw_lz))) (th_X9_isUnder_L4 bw_fu v0 (0 : Int32) h)
set_option maxRecDepth 20000 in
set_option maxHeartbeats 1000000 in
theorem ct_X9_as {w : WE} {M : Mem} {v1 : Int32} {v2 : Int32} {out : Int32} (h : f_X9_as M v1 v2 = some out) : Ct w 3 yX9_as cX9_as 4 (some .int) [.ref (bw_ad w 0), .int v1, .int v2] M (bw_pi (out) M) := by
  refine Ct.of (own := RX9) rfl (by decide) (by intro v hv; simp only [List.mem_cons, List.not_mem_nil, or_false] at hv; rcases hv with rfl | rfl | rfl <;> first | rfl | exact bw_cat_rf _) (Nat.le_of_ble_eq_true rfl) ?_
  unfold f_X9_as at h
  show RW w 3 0 0 0 0 cX9_as RX9 4 (some .int) (bw_Z w (bw_pi (out) M)) 0 [(0, .ref (bw_ad w 0)), (1, .int v1), (2, .int v2)] [] M
  refine rw_aload_n dX9_as_0 rfl rfl ?_
  refine rw_get dX9_as_1 fl_RX9_10 (sh_x w) (bw_kl (by decide)) rfl ?_
  refine rw_iload_n dX9_as_4 rfl rfl ?_
  refine rw_callV1 dX9_as_5 ln_RX9_154 mv_X6_hasBoard (sh_now w) (bw_kl (by decide)) (ct_X6_hasBoard (by decide) rfl) (Nat.le_of_ble_eq_true rfl) (Nat.le_of_ble_eq_true rfl) (bw_kkz (fun z1 => ?_))
  refine rw_if_eq (tgt := 18) dX9_as_8 (by decide) (fun c2 => ?_) (fun c2 => ?_)
  · have h := bw_it c2 h
    refine rw_ldc dX9_as_18 cn_RX9_83 ?_
    have h := Option.some.inj h
    subst h
    exact rw_iret dX9_as_20 ⟨rfl, rfl⟩
  · have h := bw_if c2 h
    refine rw_iload_n dX9_as_11 rfl rfl ?_
    refine rw_callS1 dX9_as_12 ln_RX9_144 ms_X9_isKind (ct_X9_isKind rfl) (Nat.le_of_ble_eq_true rfl) (Nat.le_of_ble_eq_true rfl) (bw_kkz (fun z3 => ?_))
    refine rw_if_ne (tgt := 21) dX9_as_15 (by decide) (fun c4 => ?_) (fun c4 => ?_)
    · have h := bw_if c4 h
      refine rw_aload_n dX9_as_21 rfl rfl ?_
      refine rw_get dX9_as_22 fl_RX9_10 (sh_x w) (bw_kl (by decide)) rfl ?_
      refine rw_get dX9_as_25 fl_RX9_157 (sh_now w) (bw_kl (by decide)) rfl ?_
      refine rw_iload_n dX9_as_28 rfl rfl ?_
      obtain ⟨g5, h⟩ := bw_gd h
      refine rw_aaldR dX9_as_29 (sh_now_boards w) rfl (bw_kl (by decide)) (bw_in g5) ?_
      refine rw_astore_n dX9_as_30 rfl (by decide) ?_
      refine rw_aload_n dX9_as_31 rfl rfl ?_
      refine rw_get dX9_as_32 fl_RX9_161 (shB (iB_n (bw_lt g5))) (klB (iB_n (bw_lt g5))) rfl ?_
      refine rw_iload_n dX9_as_35 rfl rfl ?_
      obtain ⟨q6, hq6, h⟩ := bw_bd h
      refine rw_callS2 dX9_as_36 ln_RX9_189 ms_X9_isUnder (ct_X9_isUnder hq6) (Nat.le_of_ble_eq_true rfl) (Nat.le_of_ble_eq_true rfl) (bw_kkz (fun z7 => ?_))
      have key : RW w 3 0 0 0 0 cX9_as RX9 4 (some .int) (bw_Z w (bw_pi (out) M)) 51 [] [.int (if q6 = 0 then (-1000000012 : Int32) else M (33 + v1.toNatClampNeg) 3)] M := by
        have h := Option.some.inj h
        subst h
        exact rw_iret dX9_as_51 ⟨rfl, rfl⟩
      refine rw_if_eq (tgt := 49) dX9_as_39 (by decide) (fun c8 => ?_) (fun c8 => ?_)
      · refine rw_ldc dX9_as_49 cn_RX9_193 ?_
        simp only [if_pos c8] at key
        exact rw_sub rw_lz key
      · refine rw_aload_n dX9_as_42 rfl rfl ?_
        refine rw_get dX9_as_43 fl_RX9_172 (shB (iB_n (bw_lt g5))) (klB (iB_n (bw_lt g5))) rfl ?_
        refine rw_goto (tgt := 51) dX9_as_46 (by decide) ?_
        simp only [if_neg c8] at key
        exact rw_sub rw_lz key
    · have h := bw_it c4 h
      refine rw_ldc dX9_as_18 cn_RX9_83 ?_
      have h := Option.some.inj h
      subst h
      exact rw_iret dX9_as_20 ⟨rfl, rfl⟩
set_option maxRecDepth 20000 in
set_option maxHeartbeats 1000000 in
theorem ct_X9_turns {w : WE} {M : Mem} {v1 : Int32} {v2 : Int32} {out : Int32 × Mem} (h : f_X9_turns M v1 v2 = some out) : Ct w 2 yX9_turns cX9_turns 4 (some .int) [.ref (bw_ad w 0), .int v1, .int v2] M (bw_pi (out.1) out.2) := by
  refine Ct.of (own := RX9) rfl (by decide) (by intro v hv; simp only [List.mem_cons, List.not_mem_nil, or_false] at hv; rcases hv with rfl | rfl | rfl <;> first | rfl | exact bw_cat_rf _) (Nat.le_of_ble_eq_true rfl) ?_
  unfold f_X9_turns at h
  show RW w 2 0 0 0 0 cX9_turns RX9 4 (some .int) (bw_Z w (bw_pi (out.1) out.2)) 0 [(0, .ref (bw_ad w 0)), (1, .int v1), (2, .int v2)] [] M
  refine rw_aload_n dX9_turns_0 rfl rfl ?_
  refine rw_get dX9_turns_1 fl_RX9_10 (sh_x w) (bw_kl (by decide)) rfl ?_
  refine rw_iload_n dX9_turns_4 rfl rfl ?_
  refine rw_callV1 dX9_turns_5 ln_RX9_154 mv_X6_hasBoard (sh_now w) (bw_kl (by decide)) (ct_X6_hasBoard (by decide) rfl) (Nat.le_of_ble_eq_true rfl) (Nat.le_of_ble_eq_true rfl) (bw_kkz (fun z1 => ?_))
  refine rw_if_eq (tgt := 18) dX9_turns_8 (by decide) (fun c2 => ?_) (fun c2 => ?_)
  · have h := bw_it c2 h
    refine rw_ldc dX9_turns_18 cn_RX9_83 ?_
    have h := Option.some.inj h
    subst h
    exact rw_iret dX9_turns_20 ⟨rfl, rfl⟩
  · have h := bw_if c2 h
    refine rw_iload_n dX9_turns_11 rfl rfl ?_
    refine rw_callS1 dX9_turns_12 ln_RX9_144 ms_X9_isKind (ct_X9_isKind rfl) (Nat.le_of_ble_eq_true rfl) (Nat.le_of_ble_eq_true rfl) (bw_kkz (fun z3 => ?_))
    refine rw_if_ne (tgt := 21) dX9_turns_15 (by decide) (fun c4 => ?_) (fun c4 => ?_)
    · have h := bw_if c4 h
      refine rw_aload_n dX9_turns_21 rfl rfl ?_
      refine rw_get dX9_turns_22 fl_RX9_10 (sh_x w) (bw_kl (by decide)) rfl ?_
      refine rw_get dX9_turns_25 fl_RX9_157 (sh_now w) (bw_kl (by decide)) rfl ?_
      refine rw_iload_n dX9_turns_28 rfl rfl ?_
      obtain ⟨g5, h⟩ := bw_gd h
      refine rw_aaldR dX9_turns_29 (sh_now_boards w) rfl (bw_kl (by decide)) (bw_in g5) ?_
      refine rw_get dX9_turns_30 fl_RX9_161 (shB (iB_n (bw_lt g5))) (klB (iB_n (bw_lt g5))) rfl ?_
      refine rw_istore_n dX9_turns_33 rfl (by decide) ?_
      refine rw_aload_n dX9_turns_34 rfl rfl ?_
      refine rw_get dX9_turns_35 fl_RX9_10 (sh_x w) (bw_kl (by decide)) rfl ?_
      refine rw_get dX9_turns_38 fl_RX9_157 (sh_now w) (bw_kl (by decide)) rfl ?_
      refine rw_iload_n dX9_turns_41 rfl rfl ?_
      refine rw_aaldR dX9_turns_42 (sh_now_boards w) rfl (bw_kl (by decide)) (bw_in g5) ?_
      refine rw_iload_n dX9_turns_43 rfl rfl ?_
      refine rw_puti dX9_turns_44 fl_RX9_161 fp_0_0 (shB (iB_n (bw_lt g5))) (klB (iB_n (bw_lt g5))) (by decide) (fun _ => rfl) (fun _ => Nat.le_of_ble_eq_true rfl) ?_
      obtain ⟨M6, hM6, h⟩ := bw_mlE h
      refine rw_m hM6.symm ?_
      refine rw_iload_n dX9_turns_47 rfl rfl ?_
      have h := Option.some.inj h
      subst h
      exact rw_iret dX9_turns_48 ⟨rfl, rfl⟩
    · have h := bw_it c4 h
      refine rw_ldc dX9_turns_18 cn_RX9_83 ?_
      have h := Option.some.inj h
      subst h
      exact rw_iret dX9_turns_20 ⟨rfl, rfl⟩
set_option maxRecDepth 20000 in
set_option maxHeartbeats 1000000 in
theorem ct_X9_drop {w : WE} {M : Mem} {v1 : Int32} {out : Int32 × Mem} (h : f_X9_drop M v1 = some out) : Ct w 3 yX9_drop cX9_drop 2 (some .int) [.ref (bw_ad w 0), .int v1] M (bw_pi (out.1) out.2) := by
  refine Ct.of (own := RX9) rfl (by decide) (by intro v hv; simp only [List.mem_cons, List.not_mem_nil, or_false] at hv; rcases hv with rfl | rfl <;> first | rfl | exact bw_cat_rf _) (Nat.le_of_ble_eq_true rfl) ?_
  unfold f_X9_drop at h
  show RW w 3 0 0 0 0 cX9_drop RX9 2 (some .int) (bw_Z w (bw_pi (out.1) out.2)) 0 [(0, .ref (bw_ad w 0)), (1, .int v1)] [] M
  refine rw_aload_n dX9_drop_0 rfl rfl ?_
  refine rw_get dX9_drop_1 fl_RX9_10 (sh_x w) (bw_kl (by decide)) rfl ?_
  refine rw_iload_n dX9_drop_4 rfl rfl ?_
  refine rw_callV1 dX9_drop_5 ln_RX9_154 mv_X6_hasBoard (sh_now w) (bw_kl (by decide)) (ct_X6_hasBoard (by decide) rfl) (Nat.le_of_ble_eq_true rfl) (Nat.le_of_ble_eq_true rfl) (bw_kkz (fun z1 => ?_))
  refine rw_if_ne (tgt := 14) dX9_drop_8 (by decide) (fun c2 => ?_) (fun c2 => ?_)
  · have h := bw_if c2 h
    refine rw_aload_n dX9_drop_14 rfl rfl ?_
    refine rw_get dX9_drop_15 fl_RX9_10 (sh_x w) (bw_kl (by decide)) rfl ?_
    refine rw_iload_n dX9_drop_18 rfl rfl ?_
    obtain ⟨q3, hq3, h⟩ := bw_bd h
    refine rw_callV1 dX9_drop_19 ln_RX9_194 mv_X6_dropBoard (sh_now w) (bw_kl (by decide)) (ct_X6_dropBoard (by decide) hq3) (Nat.le_of_ble_eq_true rfl) (Nat.le_of_ble_eq_true rfl) (bw_kki ?_)
    have h := Option.some.inj h
    subst h
    exact rw_iret dX9_drop_22 ⟨rfl, rfl⟩
  · have h := bw_it c2 h
    refine rw_ldc dX9_drop_11 cn_RX9_83 ?_
    have h := Option.some.inj h
    subst h
    exact rw_iret dX9_drop_13 ⟨rfl, rfl⟩
set_option maxRecDepth 20000 in
set_option maxHeartbeats 1000000 in
theorem ct_X9_judge {w : WE} {M : Mem} {v1 : Int32} {out : Int32} (h : f_X9_judge M v1 = some out) : Ct w 6 yX9_judge cX9_judge 2 (some .int) [.ref (bw_ad w 0), .int v1] M (bw_pi (out) M) := by
  refine Ct.of (own := RX9) rfl (by decide) (by intro v hv; simp only [List.mem_cons, List.not_mem_nil, or_false] at hv; rcases hv with rfl | rfl <;> first | rfl | exact bw_cat_rf _) (Nat.le_of_ble_eq_true rfl) ?_
  unfold f_X9_judge at h
  show RW w 6 0 0 0 0 cX9_judge RX9 2 (some .int) (bw_Z w (bw_pi (out) M)) 0 [(0, .ref (bw_ad w 0)), (1, .int v1)] [] M
  refine rw_iload_n dX9_judge_0 rfl rfl ?_
  refine rw_case (0 : Int32) (fun c1 => ?_) (fun c1 => ?_)
  · have h := bw_it c1 h
    refine rw_tabK (tgt := 28) dX9_judge_1 c1 (by decide) (by decide) rfl (by decide) ?_
    refine rw_aload_n dX9_judge_28 rfl rfl ?_
    refine rw_get dX9_judge_29 fl_RX9_10 (sh_x w) (bw_kl (by decide)) rfl ?_
    obtain ⟨q2, hq2, h⟩ := bw_bd h
    refine rw_callV0 dX9_judge_32 ln_RX9_197 mv_X6_firstBoardNotGood (sh_now w) (bw_kl (by decide)) (ct_X6_firstBoardNotGood (by decide) hq2) (Nat.le_of_ble_eq_true rfl) (Nat.le_of_ble_eq_true rfl) (bw_kki ?_)
    have h := Option.some.inj h
    subst h
    exact rw_iret dX9_judge_35 ⟨rfl, rfl⟩
  · have h := bw_if c1 h
    refine rw_case (1 : Int32) (fun c3 => ?_) (fun c3 => ?_)
    · have h := bw_it c3 h
      refine rw_tabK (tgt := 36) dX9_judge_1 c3 (by decide) (by decide) rfl (by decide) ?_
      refine rw_aload_n dX9_judge_36 rfl rfl ?_
      refine rw_get dX9_judge_37 fl_RX9_10 (sh_x w) (bw_kl (by decide)) rfl ?_
      obtain ⟨q4, hq4, h⟩ := bw_bd h
      refine rw_callV0 dX9_judge_40 ln_RX9_200 mv_X6_firstBookAmiss (sh_now w) (bw_kl (by decide)) (ct_X6_firstBookAmiss (by decide) hq4) (Nat.le_of_ble_eq_true rfl) (Nat.le_of_ble_eq_true rfl) (bw_kki ?_)
      have h := Option.some.inj h
      subst h
      exact rw_iret dX9_judge_43 ⟨rfl, rfl⟩
    · have h := bw_if c3 h
      refine rw_case (2 : Int32) (fun c5 => ?_) (fun c5 => ?_)
      · have h := bw_it c5 h
        refine rw_tabK (tgt := 44) dX9_judge_1 c5 (by decide) (by decide) rfl (by decide) ?_
        refine rw_aload_n dX9_judge_44 rfl rfl ?_
        refine rw_get dX9_judge_45 fl_RX9_10 (sh_x w) (bw_kl (by decide)) rfl ?_
        obtain ⟨q6, hq6, h⟩ := bw_bd h
        refine rw_callV0 dX9_judge_48 ln_RX9_203 mv_X6_heightOfBoards (sh_now w) (bw_kl (by decide)) (ct_X6_heightOfBoards (by decide) hq6) (Nat.le_of_ble_eq_true rfl) (Nat.le_of_ble_eq_true rfl) (bw_kki ?_)
        have h := Option.some.inj h
        subst h
        exact rw_iret dX9_judge_51 ⟨rfl, rfl⟩
      · have h := bw_if c5 h
        refine rw_tabD (tgt := 52) dX9_judge_1 (by have := lv_neT (a := 0) c1 (by decide); have := lv_neT (a := 1) c3 (by decide); have := lv_neT (a := 2) c5 (by decide); omega) (by decide) ?_
        refine rw_ldc dX9_judge_52 cn_RX9_83 ?_
        have h := Option.some.inj h
        subst h
        exact rw_iret dX9_judge_54 ⟨rfl, rfl⟩
set_option maxRecDepth 20000 in
set_option maxHeartbeats 1000000 in
theorem ct_X9_setting {w : WE} {M : Mem} {v1 : Int32} {out : Int32 × Mem} (h : f_X9_setting M v1 = some out) : Ct w 7 yX9_setting cX9_setting 2 (some .int) [.ref (bw_ad w 0), .int v1] M (bw_pi (out.1) out.2) := by
  refine Ct.of (own := RX9) rfl (by decide) (by intro v hv; simp only [List.mem_cons, List.not_mem_nil, or_false] at hv; rcases hv with rfl | rfl <;> first | rfl | exact bw_cat_rf _) (Nat.le_of_ble_eq_true rfl) ?_
  unfold f_X9_setting at h
  show RW w 7 0 0 0 0 cX9_setting RX9 2 (some .int) (bw_Z w (bw_pi (out.1) out.2)) 0 [(0, .ref (bw_ad w 0)), (1, .int v1)] [] M
  refine rw_iload_n dX9_setting_0 rfl rfl ?_
  refine rw_bipush (v := -2) dX9_setting_1 (by decide) ?_
  refine rw_icmp_ge (tgt := 9) dX9_setting_3 (by decide) (fun c1 => ?_) (fun c1 => ?_)
  · have h := bw_it c1 h
    refine rw_aload_n dX9_setting_9 rfl rfl ?_
    refine rw_get dX9_setting_10 fl_RX9_22 (sh_x w) (bw_kl (by decide)) rfl ?_
    refine rw_aload_n dX9_setting_13 rfl rfl ?_
    refine rw_get dX9_setting_14 fl_RX9_10 (sh_x w) (bw_kl (by decide)) rfl ?_
    obtain ⟨q2, hq2, h⟩ := bw_bd h
    refine rw_callV1 dX9_setting_17 ln_RX9_109 mv_X2_load (sh_plan w) (bw_kl (by decide)) (ct_X2_load (by decide) hq2) (Nat.le_of_ble_eq_true rfl) (Nat.le_of_ble_eq_true rfl) (bw_kkr ?_)
    obtain ⟨q3, hq3, h⟩ := bw_bd h
    refine rw_callV0 dX9_setting_20 ln_RX9_113 mv_X2_settle (sh_plan w) (bw_kl (by decide)) (ct_X2_settle hq3) (Nat.le_of_ble_eq_true rfl) (Nat.le_of_ble_eq_true rfl) (bw_kkz (fun z4 => ?_))
    refine rw_if_ne (tgt := 29) dX9_setting_23 (by decide) (fun c5 => ?_) (fun c5 => ?_)
    · have h := bw_if c5 h
      refine rw_iload_n dX9_setting_29 rfl rfl ?_
      refine rw_bipush (v := -2) dX9_setting_30 (by decide) ?_
      refine rw_icmp_ne (tgt := 45) dX9_setting_32 (by decide) (fun c6 => ?_) (fun c6 => ?_)
      · have h := bw_if c6 h
        refine rw_iload_n dX9_setting_45 rfl rfl ?_
        refine rw_iconst (v := -1) dX9_setting_46 (by decide) ?_
        refine rw_icmp_ne (tgt := 58) dX9_setting_47 (by decide) (fun c7 => ?_) (fun c7 => ?_)
        · have h := bw_if c7 h
          refine rw_iload_n dX9_setting_58 rfl rfl ?_
          refine rw_aload_n dX9_setting_59 rfl rfl ?_
          refine rw_get dX9_setting_60 fl_RX9_22 (sh_x w) (bw_kl (by decide)) rfl ?_
          refine rw_get dX9_setting_63 fl_RX9_209 (sh_plan w) (bw_kl (by decide)) rfl ?_
          refine rw_icmp_ge (tgt := 81) dX9_setting_66 (by decide) (fun c8 => ?_) (fun c8 => ?_)
          · have h := bw_it c8 h
            refine rw_ldc dX9_setting_81 cn_RX9_121 ?_
            have h := Option.some.inj h
            subst h
            exact rw_iret dX9_setting_83 ⟨rfl, rfl⟩
          · have h := bw_if c8 h
            refine rw_aload_n dX9_setting_69 rfl rfl ?_
            refine rw_get dX9_setting_70 fl_RX9_22 (sh_x w) (bw_kl (by decide)) rfl ?_
            refine rw_get dX9_setting_73 fl_RX9_212 (sh_plan w) (bw_kl (by decide)) rfl ?_
            refine rw_iload_n dX9_setting_76 rfl rfl ?_
            obtain ⟨g9, h⟩ := bw_gd h
            refine rw_iald dX9_setting_77 (sh_p_first w) (bw_kl (by decide)) (bw_in g9) ?_
            refine rw_goto (tgt := 83) dX9_setting_78 (by decide) ?_
            have h := Option.some.inj h
            subst h
            exact rw_iret dX9_setting_83 ⟨rfl, rfl⟩
        · have h := bw_it c7 h
          refine rw_aload_n dX9_setting_50 rfl rfl ?_
          refine rw_get dX9_setting_51 fl_RX9_22 (sh_x w) (bw_kl (by decide)) rfl ?_
          refine rw_get dX9_setting_54 fl_RX9_209 (sh_plan w) (bw_kl (by decide)) rfl ?_
          have h := Option.some.inj h
          subst h
          exact rw_iret dX9_setting_57 ⟨rfl, rfl⟩
      · have h := bw_it c6 h
        refine rw_aload_n dX9_setting_35 rfl rfl ?_
        refine rw_get dX9_setting_36 fl_RX9_22 (sh_x w) (bw_kl (by decide)) rfl ?_
        refine rw_get dX9_setting_39 fl_RX9_206 (sh_plan w) (bw_kl (by decide)) rfl ?_
        refine rw_iconst (v := 0) dX9_setting_42 (by decide) ?_
        refine rw_iald dX9_setting_43 (sh_p_least w) (bw_kl (by decide)) (bw_in (show bw_ib (0 : Int32) 25 = true by decide)) ?_
        have h := Option.some.inj h
        subst h
        exact rw_iret dX9_setting_44 ⟨rfl, rfl⟩
    · have h := bw_it c5 h
      refine rw_ldc dX9_setting_26 cn_RX9_121 ?_
      have h := Option.some.inj h
      subst h
      exact rw_iret dX9_setting_28 ⟨rfl, rfl⟩
  · have h := bw_if c1 h
    refine rw_ldc dX9_setting_6 cn_RX9_83 ?_
    have h := Option.some.inj h
    subst h
    exact rw_iret dX9_setting_8 ⟨rfl, rfl⟩
set_option maxRecDepth 20000 in
set_option maxHeartbeats 1000000 in
theorem ct_X9_line {w : WE} {M : Mem} {v1 : Int32} {v2 : Int32} {out : Int32 × Mem} (h : f_X9_line M v1 v2 = some out) : Ct w 7 yX9_line cX9_line 3 (some .int) [.ref (bw_ad w 0), .int v1, .int v2] M (bw_pi (out.1) out.2) := by
  refine Ct.of (own := RX9) rfl (by decide) (by intro v hv; simp only [List.mem_cons, List.not_mem_nil, or_false] at hv; rcases hv with rfl | rfl | rfl <;> first | rfl | exact bw_cat_rf _) (Nat.le_of_ble_eq_true rfl) ?_
  unfold f_X9_line at h
  show RW w 7 0 0 0 0 cX9_line RX9 3 (some .int) (bw_Z w (bw_pi (out.1) out.2)) 0 [(0, .ref (bw_ad w 0)), (1, .int v1), (2, .int v2)] [] M
  refine rw_iload_n dX9_line_0 rfl rfl ?_
  refine rw_if_lt (tgt := 13) dX9_line_1 (by decide) (fun c1 => ?_) (fun c1 => ?_)
  · have h := bw_it c1 h
    refine rw_ldc dX9_line_13 cn_RX9_83 ?_
    have h := Option.some.inj h
    subst h
    exact rw_iret dX9_line_15 ⟨rfl, rfl⟩
  · have h := bw_if c1 h
    refine rw_iload_n dX9_line_4 rfl rfl ?_
    refine rw_iconst (v := 0) dX9_line_5 (by decide) ?_
    refine rw_iconst (v := 4) dX9_line_6 (by decide) ?_
    refine rw_callS3 dX9_line_7 ln_RX9_79 ms_X9_isWithin (ct_X9_isWithin rfl) (Nat.le_of_ble_eq_true rfl) (Nat.le_of_ble_eq_true rfl) (bw_kkz (fun z2 => ?_))
    refine rw_if_ne (tgt := 16) dX9_line_10 (by decide) (fun c3 => ?_) (fun c3 => ?_)
    · have h := bw_if c3 h
      refine rw_aload_n dX9_line_16 rfl rfl ?_
      refine rw_get dX9_line_17 fl_RX9_22 (sh_x w) (bw_kl (by decide)) rfl ?_
      refine rw_aload_n dX9_line_20 rfl rfl ?_
      refine rw_get dX9_line_21 fl_RX9_10 (sh_x w) (bw_kl (by decide)) rfl ?_
      obtain ⟨q4, hq4, h⟩ := bw_bd h
      refine rw_callV1 dX9_line_24 ln_RX9_109 mv_X2_load (sh_plan w) (bw_kl (by decide)) (ct_X2_load (by decide) hq4) (Nat.le_of_ble_eq_true rfl) (Nat.le_of_ble_eq_true rfl) (bw_kkr ?_)
      obtain ⟨q5, hq5, h⟩ := bw_bd h
      refine rw_callV0 dX9_line_27 ln_RX9_113 mv_X2_settle (sh_plan w) (bw_kl (by decide)) (ct_X2_settle hq5) (Nat.le_of_ble_eq_true rfl) (Nat.le_of_ble_eq_true rfl) (bw_kkz (fun z6 => ?_))
      refine rw_if_eq (tgt := 44) dX9_line_30 (by decide) (fun c7 => ?_) (fun c7 => ?_)
      · have h := bw_it c7 h
        refine rw_ldc dX9_line_44 cn_RX9_121 ?_
        have h := Option.some.inj h
        subst h
        exact rw_iret dX9_line_46 ⟨rfl, rfl⟩
      · have h := bw_if c7 h
        refine rw_iload_n dX9_line_33 rfl rfl ?_
        refine rw_aload_n dX9_line_34 rfl rfl ?_
        refine rw_get dX9_line_35 fl_RX9_22 (sh_x w) (bw_kl (by decide)) rfl ?_
        refine rw_get dX9_line_38 fl_RX9_209 (sh_plan w) (bw_kl (by decide)) rfl ?_
        refine rw_icmp_lt (tgt := 47) dX9_line_41 (by decide) (fun c8 => ?_) (fun c8 => ?_)
        · have h := bw_it c8 h
          refine rw_iload_n dX9_line_47 rfl rfl ?_
          refine rw_case (0 : Int32) (fun c9 => ?_) (fun c9 => ?_)
          · have h := bw_it c9 h
            refine rw_tabK (tgt := 80) dX9_line_48 c9 (by decide) (by decide) rfl (by decide) ?_
            refine rw_aload_n dX9_line_80 rfl rfl ?_
            refine rw_get dX9_line_81 fl_RX9_22 (sh_x w) (bw_kl (by decide)) rfl ?_
            refine rw_iload_n dX9_line_84 rfl rfl ?_
            obtain ⟨q10, hq10, h⟩ := bw_bd h
            refine rw_callV1 dX9_line_85 ln_RX9_214 mv_X2_booksOf (sh_plan w) (bw_kl (by decide)) (ct_X2_booksOf hq10) (Nat.le_of_ble_eq_true rfl) (Nat.le_of_ble_eq_true rfl) (bw_kki ?_)
            have h := Option.some.inj h
            subst h
            exact rw_iret dX9_line_88 ⟨rfl, rfl⟩
          · have h := bw_if c9 h
            refine rw_case (1 : Int32) (fun c11 => ?_) (fun c11 => ?_)
            · have h := bw_it c11 h
              refine rw_tabK (tgt := 89) dX9_line_48 c11 (by decide) (by decide) rfl (by decide) ?_
              refine rw_aload_n dX9_line_89 rfl rfl ?_
              refine rw_get dX9_line_90 fl_RX9_22 (sh_x w) (bw_kl (by decide)) rfl ?_
              refine rw_iload_n dX9_line_93 rfl rfl ?_
              obtain ⟨q12, hq12, h⟩ := bw_bd h
              refine rw_callV1 dX9_line_94 ln_RX9_217 mv_X2_thicknessOf (sh_plan w) (bw_kl (by decide)) (ct_X2_thicknessOf hq12) (Nat.le_of_ble_eq_true rfl) (Nat.le_of_ble_eq_true rfl) (bw_kki ?_)
              have h := Option.some.inj h
              subst h
              exact rw_iret dX9_line_97 ⟨rfl, rfl⟩
            · have h := bw_if c11 h
              refine rw_case (2 : Int32) (fun c13 => ?_) (fun c13 => ?_)
              · have h := bw_it c13 h
                refine rw_tabK (tgt := 98) dX9_line_48 c13 (by decide) (by decide) rfl (by decide) ?_
                refine rw_aload_n dX9_line_98 rfl rfl ?_
                refine rw_get dX9_line_99 fl_RX9_22 (sh_x w) (bw_kl (by decide)) rfl ?_
                refine rw_iload_n dX9_line_102 rfl rfl ?_
                obtain ⟨q14, hq14, h⟩ := bw_bd h
                refine rw_callV1 dX9_line_103 ln_RX9_220 mv_X2_tallOf (sh_plan w) (bw_kl (by decide)) (ct_X2_tallOf hq14) (Nat.le_of_ble_eq_true rfl) (Nat.le_of_ble_eq_true rfl) (bw_kki ?_)
                have h := Option.some.inj h
                subst h
                exact rw_iret dX9_line_106 ⟨rfl, rfl⟩
              · have h := bw_if c13 h
                refine rw_case (3 : Int32) (fun c15 => ?_) (fun c15 => ?_)
                · have h := bw_it c15 h
                  refine rw_tabK (tgt := 107) dX9_line_48 c15 (by decide) (by decide) rfl (by decide) ?_
                  refine rw_aload_n dX9_line_107 rfl rfl ?_
                  refine rw_get dX9_line_108 fl_RX9_22 (sh_x w) (bw_kl (by decide)) rfl ?_
                  refine rw_aload_n dX9_line_111 rfl rfl ?_
                  refine rw_get dX9_line_112 fl_RX9_22 (sh_x w) (bw_kl (by decide)) rfl ?_
                  refine rw_iload_n dX9_line_115 rfl rfl ?_
                  obtain ⟨q16, hq16, h⟩ := bw_bd h
                  refine rw_callV1 dX9_line_116 ln_RX9_220 mv_X2_tallOf (sh_plan w) (bw_kl (by decide)) (ct_X2_tallOf hq16) (Nat.le_of_ble_eq_true rfl) (Nat.le_of_ble_eq_true rfl) (bw_kki ?_)
                  obtain ⟨q17, hq17, h⟩ := bw_bd h
                  refine rw_callV1 dX9_line_119 ln_RX9_223 mv_X2_setFor (sh_plan w) (bw_kl (by decide)) (ct_X2_setFor hq17) (Nat.le_of_ble_eq_true rfl) (Nat.le_of_ble_eq_true rfl) (bw_kki ?_)
                  have h := Option.some.inj h
                  subst h
                  exact rw_iret dX9_line_122 ⟨rfl, rfl⟩
                · have h := bw_if c15 h
                  refine rw_tabD (tgt := 123) dX9_line_48 (by have := lv_neT (a := 0) c9 (by decide); have := lv_neT (a := 1) c11 (by decide); have := lv_neT (a := 2) c13 (by decide); have := lv_neT (a := 3) c15 (by decide); omega) (by decide) ?_
                  refine rw_aload_n dX9_line_123 rfl rfl ?_
                  refine rw_get dX9_line_124 fl_RX9_22 (sh_x w) (bw_kl (by decide)) rfl ?_
                  refine rw_aload_n dX9_line_127 rfl rfl ?_
                  refine rw_get dX9_line_128 fl_RX9_22 (sh_x w) (bw_kl (by decide)) rfl ?_
                  refine rw_aload_n dX9_line_131 rfl rfl ?_
                  refine rw_get dX9_line_132 fl_RX9_22 (sh_x w) (bw_kl (by decide)) rfl ?_
                  refine rw_iload_n dX9_line_135 rfl rfl ?_
                  obtain ⟨q18, hq18, h⟩ := bw_bd h
                  refine rw_callV1 dX9_line_136 ln_RX9_220 mv_X2_tallOf (sh_plan w) (bw_kl (by decide)) (ct_X2_tallOf hq18) (Nat.le_of_ble_eq_true rfl) (Nat.le_of_ble_eq_true rfl) (bw_kki ?_)
                  obtain ⟨q19, hq19, h⟩ := bw_bd h
                  refine rw_callV1 dX9_line_139 ln_RX9_223 mv_X2_setFor (sh_plan w) (bw_kl (by decide)) (ct_X2_setFor hq19) (Nat.le_of_ble_eq_true rfl) (Nat.le_of_ble_eq_true rfl) (bw_kki ?_)
                  refine rw_aload_n dX9_line_142 rfl rfl ?_
                  refine rw_get dX9_line_143 fl_RX9_22 (sh_x w) (bw_kl (by decide)) rfl ?_
                  refine rw_iload_n dX9_line_146 rfl rfl ?_
                  obtain ⟨q20, hq20, h⟩ := bw_bd h
                  refine rw_callV1 dX9_line_147 ln_RX9_214 mv_X2_booksOf (sh_plan w) (bw_kl (by decide)) (ct_X2_booksOf hq20) (Nat.le_of_ble_eq_true rfl) (Nat.le_of_ble_eq_true rfl) (bw_kki ?_)
                  obtain ⟨q21, hq21, h⟩ := bw_bd h
                  refine rw_callV2 dX9_line_150 ln_RX9_226 mv_X2_priceOf (sh_plan w) (bw_kl (by decide)) (ct_X2_priceOf hq21) (Nat.le_of_ble_eq_true rfl) (Nat.le_of_ble_eq_true rfl) (bw_kki ?_)
                  have h := Option.some.inj h
                  subst h
                  exact rw_iret dX9_line_153 ⟨rfl, rfl⟩
        · have h := bw_if c8 h
          refine rw_ldc dX9_line_44 cn_RX9_121 ?_
          have h := Option.some.inj h
          subst h
          exact rw_iret dX9_line_46 ⟨rfl, rfl⟩
    · have h := bw_it c3 h
      refine rw_ldc dX9_line_13 cn_RX9_83 ?_
      have h := Option.some.inj h
      subst h
      exact rw_iret dX9_line_15 ⟨rfl, rfl⟩
set_option maxRecDepth 20000 in
set_option maxHeartbeats 1000000 in
theorem ct_X9_allow {w : WE} {M : Mem} {v1 : Int32} {out : Int32 × Mem} (h : f_X9_allow M v1 = some out) : Ct w 1 yX9_allow cX9_allow 2 (some .int) [.ref (bw_ad w 0), .int v1] M (bw_pi (out.1) out.2) := by
  refine Ct.of (own := RX9) rfl (by decide) (by intro v hv; simp only [List.mem_cons, List.not_mem_nil, or_false] at hv; rcases hv with rfl | rfl <;> first | rfl | exact bw_cat_rf _) (Nat.le_of_ble_eq_true rfl) ?_
  unfold f_X9_allow at h
  show RW w 1 0 0 0 0 cX9_allow RX9 2 (some .int) (bw_Z w (bw_pi (out.1) out.2)) 0 [(0, .ref (bw_ad w 0)), (1, .int v1)] [] M
  refine rw_iload_n dX9_allow_0 rfl rfl ?_
  refine rw_iconst (v := 1) dX9_allow_1 (by decide) ?_
  refine rw_bipush (v := 99) dX9_allow_2 (by decide) ?_
  refine rw_callS3 dX9_allow_4 ln_RX9_79 ms_X9_isWithin (ct_X9_isWithin rfl) (Nat.le_of_ble_eq_true rfl) (Nat.le_of_ble_eq_true rfl) (bw_kkz (fun z1 => ?_))
  refine rw_if_ne (tgt := 13) dX9_allow_7 (by decide) (fun c2 => ?_) (fun c2 => ?_)
  · have h := bw_if c2 h
    refine rw_aload_n dX9_allow_13 rfl rfl ?_
    refine rw_get dX9_allow_14 fl_RX9_10 (sh_x w) (bw_kl (by decide)) rfl ?_
    refine rw_iload_n dX9_allow_17 rfl rfl ?_
    obtain ⟨q3, hq3, h⟩ := bw_bd h
    refine rw_callV1 dX9_allow_18 ln_RX9_229 mv_X6_isAllowed (sh_now w) (bw_kl (by decide)) (ct_X6_isAllowed (by decide) hq3) (Nat.le_of_ble_eq_true rfl) (Nat.le_of_ble_eq_true rfl) (bw_kkz (fun z4 => ?_))
    refine rw_if_eq (tgt := 27) dX9_allow_21 (by decide) (fun c5 => ?_) (fun c5 => ?_)
    · have h := bw_it c5 h
      refine rw_aload_n dX9_allow_27 rfl rfl ?_
      refine rw_get dX9_allow_28 fl_RX9_10 (sh_x w) (bw_kl (by decide)) rfl ?_
      refine rw_get dX9_allow_31 fl_RX9_233 (sh_now w) (bw_kl (by decide)) rfl ?_
      refine rw_bipush (v := 6) dX9_allow_34 (by decide) ?_
      refine rw_icmp_lt (tgt := 42) dX9_allow_36 (by decide) (fun c6 => ?_) (fun c6 => ?_)
      · have h := bw_it c6 h
        refine rw_aload_n dX9_allow_42 rfl rfl ?_
        refine rw_get dX9_allow_43 fl_RX9_10 (sh_x w) (bw_kl (by decide)) rfl ?_
        refine rw_iload_n dX9_allow_46 rfl rfl ?_
        obtain ⟨q7, hq7, h⟩ := bw_bd h
        refine rw_callV1 dX9_allow_47 ln_RX9_236 mv_X6_addAllowed (sh_now w) (bw_kl (by decide)) (ct_X6_addAllowed (by decide) hq7) (Nat.le_of_ble_eq_true rfl) (Nat.le_of_ble_eq_true rfl) (bw_kki ?_)
        have h := Option.some.inj h
        subst h
        exact rw_iret dX9_allow_50 ⟨rfl, rfl⟩
      · have h := bw_if c6 h
        refine rw_ldc dX9_allow_39 cn_RX9_88 ?_
        have h := Option.some.inj h
        subst h
        exact rw_iret dX9_allow_41 ⟨rfl, rfl⟩
    · have h := bw_if c5 h
      refine rw_ldc dX9_allow_24 cn_RX9_232 ?_
      have h := Option.some.inj h
      subst h
      exact rw_iret dX9_allow_26 ⟨rfl, rfl⟩
  · have h := bw_it c2 h
    refine rw_ldc dX9_allow_10 cn_RX9_83 ?_
    have h := Option.some.inj h
    subst h
    exact rw_iret dX9_allow_12 ⟨rfl, rfl⟩
set_option maxRecDepth 20000 in
set_option maxHeartbeats 1000000 in
theorem ct_X9_clear {w : WE} {M : Mem} {out : Int32 × Mem} (h : f_X9_clear M = some out) : Ct w 0 yX9_clear cX9_clear 2 (some .int) [.ref (bw_ad w 0)] M (bw_pi (out.1) out.2) := by
  refine Ct.of (own := RX9) rfl (by decide) (by intro v hv; rw [List.mem_singleton.mp hv]; first | rfl | exact bw_cat_rf _) (Nat.le_of_ble_eq_true rfl) ?_
  unfold f_X9_clear at h
  show RW w 0 0 0 0 0 cX9_clear RX9 2 (some .int) (bw_Z w (bw_pi (out.1) out.2)) 0 [(0, .ref (bw_ad w 0))] [] M
  refine rw_aload_n dX9_clear_0 rfl rfl ?_
  refine rw_get dX9_clear_1 fl_RX9_10 (sh_x w) (bw_kl (by decide)) rfl ?_
  refine rw_get dX9_clear_4 fl_RX9_233 (sh_now w) (bw_kl (by decide)) rfl ?_
  refine rw_istore_n dX9_clear_7 rfl (by decide) ?_
  refine rw_aload_n dX9_clear_8 rfl rfl ?_
  refine rw_get dX9_clear_9 fl_RX9_10 (sh_x w) (bw_kl (by decide)) rfl ?_
  refine rw_iconst (v := 0) dX9_clear_12 (by decide) ?_
  refine rw_puti dX9_clear_13 fl_RX9_233 fp_6_11 (sh_now w) (bw_kl (by decide)) (by decide) (fun _ => rfl) (fun _ => Nat.le_of_ble_eq_true rfl) ?_
  obtain ⟨M1, hM1, h⟩ := bw_mlE h
  refine rw_m hM1.symm ?_
  refine rw_iload_n dX9_clear_16 rfl rfl ?_
  have h := Option.some.inj h
  subst h
  exact rw_iret dX9_clear_17 ⟨rfl, rfl⟩
set_option maxRecDepth 20000 in
set_option maxHeartbeats 1000000 in
theorem ct_X9_cases {w : WE} {M : Mem} {v1 : Int32} {out : Int32 × Mem} (h : f_X9_cases M v1 = some out) : Ct w 4 yX9_cases cX9_cases 3 (some .int) [.ref (bw_ad w 0), .int v1] M (bw_pi (out.1) out.2) := by
  refine Ct.of (own := RX9) rfl (by decide) (by intro v hv; simp only [List.mem_cons, List.not_mem_nil, or_false] at hv; rcases hv with rfl | rfl <;> first | rfl | exact bw_cat_rf _) (Nat.le_of_ble_eq_true rfl) ?_
  unfold f_X9_cases at h
  show RW w 4 0 0 0 0 cX9_cases RX9 3 (some .int) (bw_Z w (bw_pi (out.1) out.2)) 0 [(0, .ref (bw_ad w 0)), (1, .int v1)] [] M
  refine rw_iload_n dX9_cases_0 rfl rfl ?_
  refine rw_iconst (v := 0) dX9_cases_1 (by decide) ?_
  refine rw_iconst (v := 1) dX9_cases_2 (by decide) ?_
  refine rw_callS3 dX9_cases_3 ln_RX9_79 ms_X9_isWithin (ct_X9_isWithin rfl) (Nat.le_of_ble_eq_true rfl) (Nat.le_of_ble_eq_true rfl) (bw_kkz (fun z1 => ?_))
  refine rw_if_ne (tgt := 12) dX9_cases_6 (by decide) (fun c2 => ?_) (fun c2 => ?_)
  · have h := bw_if c2 h
    refine rw_aload_n dX9_cases_12 rfl rfl ?_
    refine rw_get dX9_cases_13 fl_RX9_22 (sh_x w) (bw_kl (by decide)) rfl ?_
    refine rw_aload_n dX9_cases_16 rfl rfl ?_
    refine rw_get dX9_cases_17 fl_RX9_10 (sh_x w) (bw_kl (by decide)) rfl ?_
    obtain ⟨q3, hq3, h⟩ := bw_bd h
    refine rw_callV1 dX9_cases_20 ln_RX9_109 mv_X2_load (sh_plan w) (bw_kl (by decide)) (ct_X2_load (by decide) hq3) (Nat.le_of_ble_eq_true rfl) (Nat.le_of_ble_eq_true rfl) (bw_kkr ?_)
    refine rw_pop dX9_cases_23 rfl ?_
    refine rw_aload_n dX9_cases_24 rfl rfl ?_
    refine rw_get dX9_cases_25 fl_RX9_22 (sh_x w) (bw_kl (by decide)) rfl ?_
    obtain ⟨q4, hq4, h⟩ := bw_bd h
    refine rw_callV0 dX9_cases_28 ln_RX9_239 mv_X2_leastFilled (sh_plan w) (bw_kl (by decide)) (ct_X2_leastFilled hq4) (Nat.le_of_ble_eq_true rfl) (Nat.le_of_ble_eq_true rfl) (bw_kki ?_)
    refine rw_istore_n dX9_cases_31 rfl (by decide) ?_
    refine rw_iload_n dX9_cases_32 rfl rfl ?_
    refine rw_if_ge (tgt := 39) dX9_cases_33 (by decide) (fun c5 => ?_) (fun c5 => ?_)
    · have h := bw_it c5 h
      refine rw_iload_n dX9_cases_39 rfl rfl ?_
      have key : RW w 4 0 0 0 0 cX9_cases RX9 3 (some .int) (bw_Z w (bw_pi (out.1) out.2)) 56 [] [.int (if v1 = 0 then q4.1 / (1000 : Int32) else bw_rem q4.1 (1000 : Int32))] q4.2 := by
        have h := Option.some.inj h
        subst h
        exact rw_iret dX9_cases_56 ⟨rfl, rfl⟩
      refine rw_if_ne (tgt := 51) dX9_cases_40 (by decide) (fun c6 => ?_) (fun c6 => ?_)
      · refine rw_iload_n dX9_cases_51 rfl rfl ?_
        refine rw_sipush (v := 1000) dX9_cases_52 (by decide) ?_
        refine rw_irem dX9_cases_55 (by decide) ?_
        simp only [if_neg c6] at key
        exact rw_sub rw_lz key
      · refine rw_iload_n dX9_cases_43 rfl rfl ?_
        refine rw_sipush (v := 1000) dX9_cases_44 (by decide) ?_
        refine rw_idiv dX9_cases_47 (by decide) ?_
        refine rw_goto (tgt := 56) dX9_cases_48 (by decide) ?_
        simp only [if_pos c6] at key
        exact rw_sub rw_lz key
    · have h := bw_if c5 h
      refine rw_ldc dX9_cases_36 cn_RX9_121 ?_
      have h := Option.some.inj h
      subst h
      exact rw_iret dX9_cases_38 ⟨rfl, rfl⟩
  · have h := bw_it c2 h
    refine rw_ldc dX9_cases_9 cn_RX9_83 ?_
    have h := Option.some.inj h
    subst h
    exact rw_iret dX9_cases_11 ⟨rfl, rfl⟩
set_option maxRecDepth 20000 in
set_option maxHeartbeats 1000000 in
theorem th_X9_usePick_L2 {w : WE} {v1 : Int32} {v2 : Int32} {out : Mem} : ∀ (n : Nat) (v3 : Int32) (M : Mem), f_X9_usePick_L2 v1 v2 n v3 M = some out → RW w 0 0 0 0 0 cX9_usePick RX9 4 none (bw_Z w (bw_pv out)) 2 [(0, .ref (bw_ad w 0)), (1, .int v1), (2, .int v2), (3, .int v3)] [] M := by
  intro n
  induction n with
  | zero => intro v3 M h; cases h
  | succ n ih =>
    intro v3 M h
    rw [f_X9_usePick_L2] at h
    refine rw_iload_n dX9_usePick_2 rfl rfl ?_
    refine rw_iload_n dX9_usePick_3 rfl rfl ?_
    refine rw_iconst (v := 1) dX9_usePick_4 (by decide) ?_
    refine rw_isub dX9_usePick_5 ?_
    refine rw_icmp_ge (tgt := 35) dX9_usePick_6 (by decide) (fun c1 => ?_) (fun c1 => ?_)
    · have h := bw_it c1 h
      refine rw_aload_n dX9_usePick_35 rfl rfl ?_
      refine rw_get dX9_usePick_36 fl_RX9_22 (sh_x w) (bw_kl (by decide)) rfl ?_
      refine rw_get dX9_usePick_39 fl_RX9_256 (sh_plan w) (bw_kl (by decide)) rfl ?_
      refine rw_iload_n dX9_usePick_42 rfl rfl ?_
      refine rw_iconst (v := 1) dX9_usePick_43 (by decide) ?_
      refine rw_isub dX9_usePick_44 ?_
      refine rw_aload_n dX9_usePick_45 rfl rfl ?_
      refine rw_get dX9_usePick_46 fl_RX9_61 (sh_x w) (bw_kl (by decide)) rfl ?_
      refine rw_iload_n dX9_usePick_49 rfl rfl ?_
      refine rw_iconst (v := 1) dX9_usePick_50 (by decide) ?_
      refine rw_isub dX9_usePick_51 ?_
      obtain ⟨g2, h⟩ := bw_gd h
      refine rw_iald dX9_usePick_52 (sh_unlike w) (bw_kl (by decide)) (bw_in g2) ?_
      obtain ⟨g3, h⟩ := bw_gd h
      refine rw_iast dX9_usePick_53 (sh_p_heights w) (bw_kl (by decide)) (bw_in g3) ?_
      obtain ⟨M4, hM4, h⟩ := bw_mlE h
      refine rw_m hM4.symm ?_
      refine rw_aload_n dX9_usePick_54 rfl rfl ?_
      refine rw_get dX9_usePick_55 fl_RX9_22 (sh_x w) (bw_kl (by decide)) rfl ?_
      refine rw_iload_n dX9_usePick_58 rfl rfl ?_
      refine rw_puti dX9_usePick_59 fl_RX9_268 fp_2_9 (sh_plan w) (bw_kl (by decide)) (by decide) (fun _ => rfl) (fun _ => Nat.le_of_ble_eq_true rfl) ?_
      obtain ⟨M5, hM5, h⟩ := bw_mlE h
      refine rw_m hM5.symm ?_
      have h := Option.some.inj h
      subst h
      exact rw_vret dX9_usePick_62 ⟨rfl, rfl⟩
    · have h := bw_if c1 h
      refine rw_aload_n dX9_usePick_9 rfl rfl ?_
      refine rw_get dX9_usePick_10 fl_RX9_22 (sh_x w) (bw_kl (by decide)) rfl ?_
      refine rw_get dX9_usePick_13 fl_RX9_256 (sh_plan w) (bw_kl (by decide)) rfl ?_
      refine rw_iload_n dX9_usePick_16 rfl rfl ?_
      refine rw_aload_n dX9_usePick_17 rfl rfl ?_
      refine rw_get dX9_usePick_18 fl_RX9_61 (sh_x w) (bw_kl (by decide)) rfl ?_
      refine rw_aload_n dX9_usePick_21 rfl rfl ?_
      refine rw_get dX9_usePick_22 fl_RX9_64 (sh_x w) (bw_kl (by decide)) rfl ?_
      refine rw_iload_n dX9_usePick_25 rfl rfl ?_
      obtain ⟨g6, h⟩ := bw_gd h
      refine rw_iald dX9_usePick_26 (sh_pick w) (bw_kl (by decide)) (bw_in g6) ?_
      obtain ⟨g7, h⟩ := bw_gd h
      refine rw_iald dX9_usePick_27 (sh_unlike w) (bw_kl (by decide)) (bw_in g7) ?_
      obtain ⟨g8, h⟩ := bw_gd h
      refine rw_iast dX9_usePick_28 (sh_p_heights w) (bw_kl (by decide)) (bw_in g8) ?_
      obtain ⟨M9, hM9, h⟩ := bw_mlE h
      refine rw_m hM9.symm ?_
      refine rw_inc dX9_usePick_29 rfl (by decide) ?_
      refine rw_goto (tgt := 2) dX9_usePick_32 (by decide) ?_
      exact rw_sub (rw_lc rfl (rw_lc rfl (rw_lc rfl (rw_lc rfl rw_lz)))) (ih (v3 + 1) M9 h)
set_option maxRecDepth 20000 in
set_option maxHeartbeats 1000000 in
theorem ct_X9_usePick {w : WE} {M : Mem} {v1 : Int32} {v2 : Int32} {out : Mem} (h : f_X9_usePick M v1 v2 = some out) : Ct w 0 yX9_usePick cX9_usePick 4 none [.ref (bw_ad w 0), .int v1, .int v2] M (bw_pv out) := by
  refine Ct.of (own := RX9) rfl (by decide) (by intro v hv; simp only [List.mem_cons, List.not_mem_nil, or_false] at hv; rcases hv with rfl | rfl | rfl <;> first | rfl | exact bw_cat_rf _) (Nat.le_of_ble_eq_true rfl) ?_
  unfold f_X9_usePick at h
  show RW w 0 0 0 0 0 cX9_usePick RX9 4 none (bw_Z w (bw_pv out)) 0 [(0, .ref (bw_ad w 0)), (1, .int v1), (2, .int v2)] [] M
  refine rw_iconst (v := 0) dX9_usePick_0 (by decide) ?_
  refine rw_istore_n dX9_usePick_1 rfl (by decide) ?_
  exact rw_sub (rw_lc rfl (rw_lc rfl (rw_lc rfl (rw_lc rfl rw_lz)))) (th_X9_usePick_L2 bw_fu (0 : Int32) M h)
set_option maxRecDepth 20000 in
set_option maxHeartbeats 1000000 in
theorem th_X9_nextPick_L37 {w : WE} {v1 : Int32} {out : Int32 × Mem} : ∀ (n : Nat) (v4 : Int32) (M : Mem), f_X9_nextPick_L37 v1 n v4 M = some out → RW w 0 0 0 0 0 cX9_nextPick RX9 5 (some .boolean) (bw_Z w (bw_pz (out.1) out.2)) 37 [(0, .ref (bw_ad w 0)), (1, .int v1), (4, .int v4)] [] M := by
  intro n
  induction n with
  | zero => intro v4 M h; cases h
  | succ n ih =>
    intro v4 M h
    rw [f_X9_nextPick_L37] at h
    refine rw_iload dX9_nextPick_37 rfl ?_
    refine rw_iload_n dX9_nextPick_39 rfl rfl ?_
    refine rw_icmp_ge (tgt := 67) dX9_nextPick_40 (by decide) (fun c5 => ?_) (fun c5 => ?_)
    · have h := bw_it c5 h
      refine rw_iconst (v := 1) dX9_nextPick_67 (by decide) ?_
      have h := Option.some.inj h
      subst h
      exact rw_zret dX9_nextPick_68 bw_n1 ⟨rfl, rfl, bw_n1⟩
    · have h := bw_if c5 h
      refine rw_aload_n dX9_nextPick_43 rfl rfl ?_
      refine rw_get dX9_nextPick_44 fl_RX9_64 (sh_x w) (bw_kl (by decide)) rfl ?_
      refine rw_iload dX9_nextPick_47 rfl ?_
      refine rw_aload_n dX9_nextPick_49 rfl rfl ?_
      refine rw_get dX9_nextPick_50 fl_RX9_64 (sh_x w) (bw_kl (by decide)) rfl ?_
      refine rw_iload dX9_nextPick_53 rfl ?_
      refine rw_iconst (v := 1) dX9_nextPick_55 (by decide) ?_
      refine rw_isub dX9_nextPick_56 ?_
      obtain ⟨g6, h⟩ := bw_gd h
      refine rw_iald dX9_nextPick_57 (sh_pick w) (bw_kl (by decide)) (bw_in g6) ?_
      refine rw_iconst (v := 1) dX9_nextPick_58 (by decide) ?_
      refine rw_iadd dX9_nextPick_59 ?_
      obtain ⟨g7, h⟩ := bw_gd h
      refine rw_iast dX9_nextPick_60 (sh_pick w) (bw_kl (by decide)) (bw_in g7) ?_
      obtain ⟨M8, hM8, h⟩ := bw_mlE h
      refine rw_m hM8.symm ?_
      refine rw_inc dX9_nextPick_61 rfl (by decide) ?_
      refine rw_goto (tgt := 37) dX9_nextPick_64 (by decide) ?_
      exact rw_sub (rw_lc rfl (rw_lc rfl (rw_lc rfl rw_lz))) (ih (v4 + 1) M8 h)
set_option maxRecDepth 20000 in
set_option maxHeartbeats 1000000 in
theorem th_X9_nextPick_L4 {w : WE} {M : Mem} {v1 : Int32} {v2 : Int32} {out : Int32 × Mem} : ∀ (n : Nat) (v3 : Int32), f_X9_nextPick_L4 M v1 v2 n v3 = some out → RW w 0 0 0 0 0 cX9_nextPick RX9 5 (some .boolean) (bw_Z w (bw_pz (out.1) out.2)) 4 [(0, .ref (bw_ad w 0)), (1, .int v1), (2, .int v2), (3, .int v3)] [] M := by
  intro n
  induction n with
  | zero => intro v3 h; cases h
  | succ n ih =>
    intro v3 h
    rw [f_X9_nextPick_L4] at h
    refine rw_iload_n dX9_nextPick_4 rfl rfl ?_
    refine rw_if_lt (tgt := 75) dX9_nextPick_5 (by decide) (fun c1 => ?_) (fun c1 => ?_)
    · have h := bw_it c1 h
      refine rw_iconst (v := 0) dX9_nextPick_75 (by decide) ?_
      have h := Option.some.inj h
      subst h
      exact rw_zret dX9_nextPick_76 bw_n0 ⟨rfl, rfl, bw_n0⟩
    · have h := bw_if c1 h
      refine rw_aload_n dX9_nextPick_8 rfl rfl ?_
      refine rw_get dX9_nextPick_9 fl_RX9_64 (sh_x w) (bw_kl (by decide)) rfl ?_
      refine rw_iload_n dX9_nextPick_12 rfl rfl ?_
      obtain ⟨g2, h⟩ := bw_gd h
      refine rw_iald dX9_nextPick_13 (sh_pick w) (bw_kl (by decide)) (bw_in g2) ?_
      refine rw_iload_n dX9_nextPick_14 rfl rfl ?_
      refine rw_iload_n dX9_nextPick_15 rfl rfl ?_
      refine rw_iload_n dX9_nextPick_16 rfl rfl ?_
      refine rw_isub dX9_nextPick_17 ?_
      refine rw_isub dX9_nextPick_18 ?_
      refine rw_icmp_ge (tgt := 69) dX9_nextPick_19 (by decide) (fun c3 => ?_) (fun c3 => ?_)
      · have h := bw_it c3 h
        refine rw_dec dX9_nextPick_69 rfl (by decide) ?_
        refine rw_goto (tgt := 4) dX9_nextPick_72 (by decide) ?_
        exact rw_sub (rw_lc rfl (rw_lc rfl (rw_lc rfl (rw_lc rfl rw_lz)))) (ih (v3 - 1) h)
      · have h := bw_if c3 h
        refine rw_aload_n dX9_nextPick_22 rfl rfl ?_
        refine rw_get dX9_nextPick_23 fl_RX9_64 (sh_x w) (bw_kl (by decide)) rfl ?_
        refine rw_iload_n dX9_nextPick_26 rfl rfl ?_
        refine rw_dup2 dX9_nextPick_27 rfl rfl ?_
        refine rw_iald dX9_nextPick_28 (sh_pick w) (bw_kl (by decide)) (bw_in g2) ?_
        refine rw_iconst (v := 1) dX9_nextPick_29 (by decide) ?_
        refine rw_iadd dX9_nextPick_30 ?_
        refine rw_iast dX9_nextPick_31 (sh_pick w) (bw_kl (by decide)) (bw_in g2) ?_
        obtain ⟨M4, hM4, h⟩ := bw_mlE h
        refine rw_m hM4.symm ?_
        refine rw_iload_n dX9_nextPick_32 rfl rfl ?_
        refine rw_iconst (v := 1) dX9_nextPick_33 (by decide) ?_
        refine rw_iadd dX9_nextPick_34 ?_
        refine rw_istore dX9_nextPick_35 (by decide) ?_
        exact rw_sub (rw_lc rfl (rw_lc rfl (rw_lc rfl rw_lz))) (th_X9_nextPick_L37 bw_fu (v3 + (1 : Int32)) M4 h)
set_option maxRecDepth 20000 in
set_option maxHeartbeats 1000000 in
theorem ct_X9_nextPick {w : WE} {M : Mem} {v1 : Int32} {v2 : Int32} {out : Int32 × Mem} (h : f_X9_nextPick M v1 v2 = some out) : Ct w 0 yX9_nextPick cX9_nextPick 5 (some .boolean) [.ref (bw_ad w 0), .int v1, .int v2] M (bw_pz (out.1) out.2) := by
  refine Ct.of (own := RX9) rfl (by decide) (by intro v hv; simp only [List.mem_cons, List.not_mem_nil, or_false] at hv; rcases hv with rfl | rfl | rfl <;> first | rfl | exact bw_cat_rf _) (Nat.le_of_ble_eq_true rfl) ?_
  unfold f_X9_nextPick at h
  show RW w 0 0 0 0 0 cX9_nextPick RX9 5 (some .boolean) (bw_Z w (bw_pz (out.1) out.2)) 0 [(0, .ref (bw_ad w 0)), (1, .int v1), (2, .int v2)] [] M
  refine rw_iload_n dX9_nextPick_0 rfl rfl ?_
  refine rw_iconst (v := 1) dX9_nextPick_1 (by decide) ?_
  refine rw_isub dX9_nextPick_2 ?_
  refine rw_istore_n dX9_nextPick_3 rfl (by decide) ?_
  exact rw_sub (rw_lc rfl (rw_lc rfl (rw_lc rfl (rw_lc rfl rw_lz)))) (th_X9_nextPick_L4 bw_fu (v1 - (1 : Int32)) h)
set_option maxRecDepth 20000 in
set_option maxHeartbeats 1000000 in
theorem th_X9_chooseFew_L61 {w : WE} {v1 : Int32} {v2 : Int32} {out : Int32 × Mem} : ∀ (n : Nat) (v3 : Int32) (v4 : Int32) (v5 : Int32) (M : Mem), f_X9_chooseFew_L61 v1 v2 n v3 v4 v5 M = some out → RW w 6 0 0 0 0 cX9_chooseFew RX9 7 (some .int) (bw_Z w (bw_pi (out.1) out.2)) 61 [(0, .ref (bw_ad w 0)), (1, .int v1), (2, .int v2), (3, .int v3), (4, .int v4), (5, .int v5)] [] M := by
  intro n
  induction n with
  | zero => intro v3 v4 v5 M h; cases h
  | succ n ih =>
    intro v3 v4 v5 M h
    rw [f_X9_chooseFew_L61] at h
    refine rw_iload dX9_chooseFew_61 rfl ?_
    refine rw_sipush (v := 300) dX9_chooseFew_63 (by decide) ?_
    refine rw_icmp_ge (tgt := 142) dX9_chooseFew_66 (by decide) (fun c5 => ?_) (fun c5 => ?_)
    · have h := bw_it c5 h
      refine rw_iload_n dX9_chooseFew_142 rfl rfl ?_
      have h := Option.some.inj h
      subst h
      exact rw_iret dX9_chooseFew_143 ⟨rfl, rfl⟩
    · have h := bw_if c5 h
      refine rw_iload dX9_chooseFew_69 rfl ?_
      refine rw_if_eq (tgt := 142) dX9_chooseFew_71 (by decide) (fun c6 => ?_) (fun c6 => ?_)
      · have h := bw_it c6 h
        refine rw_iload_n dX9_chooseFew_142 rfl rfl ?_
        have h := Option.some.inj h
        subst h
        exact rw_iret dX9_chooseFew_143 ⟨rfl, rfl⟩
      · have h := bw_if c6 h
        refine rw_aload_n dX9_chooseFew_74 rfl rfl ?_
        refine rw_iload_n dX9_chooseFew_75 rfl rfl ?_
        refine rw_iload_n dX9_chooseFew_76 rfl rfl ?_
        obtain ⟨q7, hq7, h⟩ := bw_bd h
        refine rw_callV2 dX9_chooseFew_77 ln_RX9_249 mv_X9_usePick (sh_x w) (bw_kl (by decide)) (ct_X9_usePick hq7) (Nat.le_of_ble_eq_true rfl) (Nat.le_of_ble_eq_true rfl) (bw_kkv ?_)
        refine rw_aload_n dX9_chooseFew_80 rfl rfl ?_
        refine rw_get dX9_chooseFew_81 fl_RX9_22 (sh_x w) (bw_kl (by decide)) rfl ?_
        obtain ⟨q8, hq8, h⟩ := bw_bd h
        refine rw_callV0 dX9_chooseFew_84 ln_RX9_253 mv_X2_leastPrices (sh_plan w) (bw_kl (by decide)) (ct_X2_leastPrices hq8) (Nat.le_of_ble_eq_true rfl) (Nat.le_of_ble_eq_true rfl) (bw_kki ?_)
        refine rw_istore dX9_chooseFew_87 (by decide) ?_
        refine rw_iload dX9_chooseFew_89 rfl ?_
        refine rw_if_lt (tgt := 124) dX9_chooseFew_91 (by decide) (fun c9 => ?_) (fun c9 => ?_)
        · have h := bw_it c9 h
          refine rw_aload_n dX9_chooseFew_124 rfl rfl ?_
          refine rw_iload_n dX9_chooseFew_125 rfl rfl ?_
          refine rw_iconst (v := 1) dX9_chooseFew_126 (by decide) ?_
          refine rw_isub dX9_chooseFew_127 ?_
          refine rw_iload_n dX9_chooseFew_128 rfl rfl ?_
          refine rw_iconst (v := 1) dX9_chooseFew_129 (by decide) ?_
          refine rw_isub dX9_chooseFew_130 ?_
          obtain ⟨q10, hq10, h⟩ := bw_bd h
          refine rw_callV2 dX9_chooseFew_131 ln_RX9_265 mv_X9_nextPick (sh_x w) (bw_kl (by decide)) (ct_X9_nextPick hq10) (Nat.le_of_ble_eq_true rfl) (Nat.le_of_ble_eq_true rfl) (bw_kkz (fun z11 => ?_))
          refine rw_istore dX9_chooseFew_134 (by decide) ?_
          refine rw_inc dX9_chooseFew_136 rfl (by decide) ?_
          refine rw_goto (tgt := 61) dX9_chooseFew_139 (by decide) ?_
          exact rw_sub (rw_lc rfl (rw_lc rfl (rw_lc rfl (rw_lc rfl (rw_lc rfl (rw_lc rfl rw_lz)))))) (ih v3 q10.1 (v5 + 1) q10.2 h)
        · have h := bw_if c9 h
          refine rw_iload_n dX9_chooseFew_94 rfl rfl ?_
          refine rw_if_lt (tgt := 104) dX9_chooseFew_95 (by decide) (fun c12 => ?_) (fun c12 => ?_)
          · have h := bw_it c12 h
            refine rw_iload dX9_chooseFew_104 rfl ?_
            refine rw_istore_n dX9_chooseFew_106 rfl (by decide) ?_
            refine rw_aload_n dX9_chooseFew_107 rfl rfl ?_
            refine rw_get dX9_chooseFew_108 fl_RX9_22 (sh_x w) (bw_kl (by decide)) rfl ?_
            refine rw_get dX9_chooseFew_111 fl_RX9_256 (sh_plan w) (bw_kl (by decide)) rfl ?_
            refine rw_iconst (v := 0) dX9_chooseFew_114 (by decide) ?_
            refine rw_aload_n dX9_chooseFew_115 rfl rfl ?_
            refine rw_get dX9_chooseFew_116 fl_RX9_67 (sh_x w) (bw_kl (by decide)) rfl ?_
            refine rw_iconst (v := 0) dX9_chooseFew_119 (by decide) ?_
            refine rw_iload_n dX9_chooseFew_120 rfl rfl ?_
            obtain ⟨g13, h⟩ := bw_gd h
            refine rw_acopy dX9_chooseFew_121 lj_RX9_259 ac_w (sh_p_heights w) (bw_kl (by decide)) (sh_chosen w) (bw_kl (by decide)) g13 (Nat.le_of_ble_eq_true rfl) (Nat.le_of_ble_eq_true rfl) ?_
            obtain ⟨M14, hM14, h⟩ := bw_mlE h
            refine rw_m hM14.symm ?_
            refine rw_aload_n dX9_chooseFew_124 rfl rfl ?_
            refine rw_iload_n dX9_chooseFew_125 rfl rfl ?_
            refine rw_iconst (v := 1) dX9_chooseFew_126 (by decide) ?_
            refine rw_isub dX9_chooseFew_127 ?_
            refine rw_iload_n dX9_chooseFew_128 rfl rfl ?_
            refine rw_iconst (v := 1) dX9_chooseFew_129 (by decide) ?_
            refine rw_isub dX9_chooseFew_130 ?_
            obtain ⟨q15, hq15, h⟩ := bw_bd h
            refine rw_callV2 dX9_chooseFew_131 ln_RX9_265 mv_X9_nextPick (sh_x w) (bw_kl (by decide)) (ct_X9_nextPick hq15) (Nat.le_of_ble_eq_true rfl) (Nat.le_of_ble_eq_true rfl) (bw_kkz (fun z16 => ?_))
            refine rw_istore dX9_chooseFew_134 (by decide) ?_
            refine rw_inc dX9_chooseFew_136 rfl (by decide) ?_
            refine rw_goto (tgt := 61) dX9_chooseFew_139 (by decide) ?_
            exact rw_sub (rw_lc rfl (rw_lc rfl (rw_lc rfl (rw_lc rfl (rw_lc rfl (rw_lc rfl rw_lz)))))) (ih q8.1 q15.1 (v5 + 1) q15.2 h)
          · have h := bw_if c12 h
            refine rw_iload dX9_chooseFew_98 rfl ?_
            refine rw_iload_n dX9_chooseFew_100 rfl rfl ?_
            refine rw_icmp_ge (tgt := 124) dX9_chooseFew_101 (by decide) (fun c17 => ?_) (fun c17 => ?_)
            · have h := bw_it c17 h
              refine rw_aload_n dX9_chooseFew_124 rfl rfl ?_
              refine rw_iload_n dX9_chooseFew_125 rfl rfl ?_
              refine rw_iconst (v := 1) dX9_chooseFew_126 (by decide) ?_
              refine rw_isub dX9_chooseFew_127 ?_
              refine rw_iload_n dX9_chooseFew_128 rfl rfl ?_
              refine rw_iconst (v := 1) dX9_chooseFew_129 (by decide) ?_
              refine rw_isub dX9_chooseFew_130 ?_
              obtain ⟨q18, hq18, h⟩ := bw_bd h
              refine rw_callV2 dX9_chooseFew_131 ln_RX9_265 mv_X9_nextPick (sh_x w) (bw_kl (by decide)) (ct_X9_nextPick hq18) (Nat.le_of_ble_eq_true rfl) (Nat.le_of_ble_eq_true rfl) (bw_kkz (fun z19 => ?_))
              refine rw_istore dX9_chooseFew_134 (by decide) ?_
              refine rw_inc dX9_chooseFew_136 rfl (by decide) ?_
              refine rw_goto (tgt := 61) dX9_chooseFew_139 (by decide) ?_
              exact rw_sub (rw_lc rfl (rw_lc rfl (rw_lc rfl (rw_lc rfl (rw_lc rfl (rw_lc rfl rw_lz)))))) (ih v3 q18.1 (v5 + 1) q18.2 h)
            · have h := bw_if c17 h
              refine rw_iload dX9_chooseFew_104 rfl ?_
              refine rw_istore_n dX9_chooseFew_106 rfl (by decide) ?_
              refine rw_aload_n dX9_chooseFew_107 rfl rfl ?_
              refine rw_get dX9_chooseFew_108 fl_RX9_22 (sh_x w) (bw_kl (by decide)) rfl ?_
              refine rw_get dX9_chooseFew_111 fl_RX9_256 (sh_plan w) (bw_kl (by decide)) rfl ?_
              refine rw_iconst (v := 0) dX9_chooseFew_114 (by decide) ?_
              refine rw_aload_n dX9_chooseFew_115 rfl rfl ?_
              refine rw_get dX9_chooseFew_116 fl_RX9_67 (sh_x w) (bw_kl (by decide)) rfl ?_
              refine rw_iconst (v := 0) dX9_chooseFew_119 (by decide) ?_
              refine rw_iload_n dX9_chooseFew_120 rfl rfl ?_
              obtain ⟨g20, h⟩ := bw_gd h
              refine rw_acopy dX9_chooseFew_121 lj_RX9_259 ac_w (sh_p_heights w) (bw_kl (by decide)) (sh_chosen w) (bw_kl (by decide)) g20 (Nat.le_of_ble_eq_true rfl) (Nat.le_of_ble_eq_true rfl) ?_
              obtain ⟨M21, hM21, h⟩ := bw_mlE h
              refine rw_m hM21.symm ?_
              refine rw_aload_n dX9_chooseFew_124 rfl rfl ?_
              refine rw_iload_n dX9_chooseFew_125 rfl rfl ?_
              refine rw_iconst (v := 1) dX9_chooseFew_126 (by decide) ?_
              refine rw_isub dX9_chooseFew_127 ?_
              refine rw_iload_n dX9_chooseFew_128 rfl rfl ?_
              refine rw_iconst (v := 1) dX9_chooseFew_129 (by decide) ?_
              refine rw_isub dX9_chooseFew_130 ?_
              obtain ⟨q22, hq22, h⟩ := bw_bd h
              refine rw_callV2 dX9_chooseFew_131 ln_RX9_265 mv_X9_nextPick (sh_x w) (bw_kl (by decide)) (ct_X9_nextPick hq22) (Nat.le_of_ble_eq_true rfl) (Nat.le_of_ble_eq_true rfl) (bw_kkz (fun z23 => ?_))
              refine rw_istore dX9_chooseFew_134 (by decide) ?_
              refine rw_inc dX9_chooseFew_136 rfl (by decide) ?_
              refine rw_goto (tgt := 61) dX9_chooseFew_139 (by decide) ?_
              exact rw_sub (rw_lc rfl (rw_lc rfl (rw_lc rfl (rw_lc rfl (rw_lc rfl (rw_lc rfl rw_lz)))))) (ih q8.1 q22.1 (v5 + 1) q22.2 h)
set_option maxRecDepth 20000 in
set_option maxHeartbeats 1000000 in
theorem th_X9_chooseFew_L34 {w : WE} {v1 : Int32} {v2 : Int32} {out : Int32 × Mem} : ∀ (n : Nat) (v3 : Int32) (M : Mem), f_X9_chooseFew_L34 v1 v2 n v3 M = some out → RW w 6 0 0 0 0 cX9_chooseFew RX9 7 (some .int) (bw_Z w (bw_pi (out.1) out.2)) 34 [(0, .ref (bw_ad w 0)), (1, .int v1), (2, .int v2), (3, .int v3)] [] M := by
  intro n
  induction n with
  | zero => intro v3 M h; cases h
  | succ n ih =>
    intro v3 M h
    rw [f_X9_chooseFew_L34] at h
    refine rw_iload_n dX9_chooseFew_34 rfl rfl ?_
    refine rw_iload_n dX9_chooseFew_35 rfl rfl ?_
    refine rw_icmp_ge (tgt := 52) dX9_chooseFew_36 (by decide) (fun c4 => ?_) (fun c4 => ?_)
    · have h := bw_it c4 h
      refine rw_ldc dX9_chooseFew_52 cn_RX9_121 ?_
      refine rw_istore_n dX9_chooseFew_54 rfl (by decide) ?_
      refine rw_iconst (v := 1) dX9_chooseFew_55 (by decide) ?_
      refine rw_istore dX9_chooseFew_56 (by decide) ?_
      refine rw_iconst (v := 0) dX9_chooseFew_58 (by decide) ?_
      refine rw_istore dX9_chooseFew_59 (by decide) ?_
      exact rw_sub (rw_lc rfl (rw_lc rfl (rw_lc rfl (rw_lc rfl (rw_lc rfl (rw_lc rfl rw_lz)))))) (th_X9_chooseFew_L61 bw_fu (-1000000005 : Int32) (1 : Int32) (0 : Int32) M h)
    · have h := bw_if c4 h
      refine rw_aload_n dX9_chooseFew_39 rfl rfl ?_
      refine rw_get dX9_chooseFew_40 fl_RX9_64 (sh_x w) (bw_kl (by decide)) rfl ?_
      refine rw_iload_n dX9_chooseFew_43 rfl rfl ?_
      refine rw_iload_n dX9_chooseFew_44 rfl rfl ?_
      obtain ⟨g24, h⟩ := bw_gd h
      refine rw_iast dX9_chooseFew_45 (sh_pick w) (bw_kl (by decide)) (bw_in g24) ?_
      obtain ⟨M25, hM25, h⟩ := bw_mlE h
      refine rw_m hM25.symm ?_
      refine rw_inc dX9_chooseFew_46 rfl (by decide) ?_
      refine rw_goto (tgt := 34) dX9_chooseFew_49 (by decide) ?_
      exact rw_sub (rw_lc rfl (rw_lc rfl (rw_lc rfl (rw_lc rfl rw_lz)))) (ih (v3 + 1) M25 h)
set_option maxRecDepth 20000 in
set_option maxHeartbeats 1000000 in
theorem ct_X9_chooseFew {w : WE} {M : Mem} {v1 : Int32} {out : Int32 × Mem} (h : f_X9_chooseFew M v1 = some out) : Ct w 6 yX9_chooseFew cX9_chooseFew 7 (some .int) [.ref (bw_ad w 0), .int v1] M (bw_pi (out.1) out.2) := by
  refine Ct.of (own := RX9) rfl (by decide) (by intro v hv; simp only [List.mem_cons, List.not_mem_nil, or_false] at hv; rcases hv with rfl | rfl <;> first | rfl | exact bw_cat_rf _) (Nat.le_of_ble_eq_true rfl) ?_
  unfold f_X9_chooseFew at h
  show RW w 6 0 0 0 0 cX9_chooseFew RX9 7 (some .int) (bw_Z w (bw_pi (out.1) out.2)) 0 [(0, .ref (bw_ad w 0)), (1, .int v1)] [] M
  refine rw_aload_n dX9_chooseFew_0 rfl rfl ?_
  refine rw_get dX9_chooseFew_1 fl_RX9_10 (sh_x w) (bw_kl (by decide)) rfl ?_
  refine rw_aload_n dX9_chooseFew_4 rfl rfl ?_
  refine rw_get dX9_chooseFew_5 fl_RX9_61 (sh_x w) (bw_kl (by decide)) rfl ?_
  obtain ⟨q1, hq1, h⟩ := bw_bd h
  refine rw_callV1 dX9_chooseFew_8 ln_RX9_245 mv_X6_unlikeHeights (sh_now w) (bw_kl (by decide)) (ct_X6_unlikeHeights (by decide) hq1) (Nat.le_of_ble_eq_true rfl) (Nat.le_of_ble_eq_true rfl) (bw_kki ?_)
  refine rw_istore_n dX9_chooseFew_11 rfl (by decide) ?_
  refine rw_iload_n dX9_chooseFew_12 rfl rfl ?_
  refine rw_iload_n dX9_chooseFew_13 rfl rfl ?_
  refine rw_icmp_ge (tgt := 20) dX9_chooseFew_14 (by decide) (fun c2 => ?_) (fun c2 => ?_)
  · have h := bw_it c2 h
    refine rw_aload_n dX9_chooseFew_20 rfl rfl ?_
    refine rw_get dX9_chooseFew_21 fl_RX9_22 (sh_x w) (bw_kl (by decide)) rfl ?_
    refine rw_aload_n dX9_chooseFew_24 rfl rfl ?_
    refine rw_get dX9_chooseFew_25 fl_RX9_10 (sh_x w) (bw_kl (by decide)) rfl ?_
    obtain ⟨q3, hq3, h⟩ := bw_bd h
    refine rw_callV1 dX9_chooseFew_28 ln_RX9_109 mv_X2_load (sh_plan w) (bw_kl (by decide)) (ct_X2_load (by decide) hq3) (Nat.le_of_ble_eq_true rfl) (Nat.le_of_ble_eq_true rfl) (bw_kkr ?_)
    refine rw_pop dX9_chooseFew_31 rfl ?_
    refine rw_iconst (v := 0) dX9_chooseFew_32 (by decide) ?_
    refine rw_istore_n dX9_chooseFew_33 rfl (by decide) ?_
    exact rw_sub (rw_lc rfl (rw_lc rfl (rw_lc rfl (rw_lc rfl rw_lz)))) (th_X9_chooseFew_L34 bw_fu (0 : Int32) q3 h)
  · have h := bw_if c2 h
    refine rw_ldc dX9_chooseFew_17 cn_RX9_121 ?_
    have h := Option.some.inj h
    subst h
    exact rw_iret dX9_chooseFew_19 ⟨rfl, rfl⟩
set_option maxRecDepth 20000 in
set_option maxHeartbeats 1000000 in
theorem ct_X9_few {w : WE} {M : Mem} {v1 : Int32} {v2 : Int32} {out : Int32 × Mem} (h : f_X9_few M v1 v2 = some out) : Ct w 7 yX9_few cX9_few 4 (some .int) [.ref (bw_ad w 0), .int v1, .int v2] M (bw_pi (out.1) out.2) := by
  refine Ct.of (own := RX9) rfl (by decide) (by intro v hv; simp only [List.mem_cons, List.not_mem_nil, or_false] at hv; rcases hv with rfl | rfl | rfl <;> first | rfl | exact bw_cat_rf _) (Nat.le_of_ble_eq_true rfl) ?_
  unfold f_X9_few at h
  show RW w 7 0 0 0 0 cX9_few RX9 4 (some .int) (bw_Z w (bw_pi (out.1) out.2)) 0 [(0, .ref (bw_ad w 0)), (1, .int v1), (2, .int v2)] [] M
  refine rw_iload_n dX9_few_0 rfl rfl ?_
  refine rw_iconst (v := 1) dX9_few_1 (by decide) ?_
  refine rw_iconst (v := 3) dX9_few_2 (by decide) ?_
  refine rw_callS3 dX9_few_3 ln_RX9_79 ms_X9_isWithin (ct_X9_isWithin rfl) (Nat.le_of_ble_eq_true rfl) (Nat.le_of_ble_eq_true rfl) (bw_kkz (fun z1 => ?_))
  refine rw_if_eq (tgt := 19) dX9_few_6 (by decide) (fun c2 => ?_) (fun c2 => ?_)
  · have h := bw_it c2 h
    refine rw_ldc dX9_few_19 cn_RX9_83 ?_
    have h := Option.some.inj h
    subst h
    exact rw_iret dX9_few_21 ⟨rfl, rfl⟩
  · have h := bw_if c2 h
    refine rw_iload_n dX9_few_9 rfl rfl ?_
    refine rw_iconst (v := -1) dX9_few_10 (by decide) ?_
    refine rw_icmp_lt (tgt := 19) dX9_few_11 (by decide) (fun c3 => ?_) (fun c3 => ?_)
    · have h := bw_it c3 h
      refine rw_ldc dX9_few_19 cn_RX9_83 ?_
      have h := Option.some.inj h
      subst h
      exact rw_iret dX9_few_21 ⟨rfl, rfl⟩
    · have h := bw_if c3 h
      refine rw_iload_n dX9_few_14 rfl rfl ?_
      refine rw_iload_n dX9_few_15 rfl rfl ?_
      refine rw_icmp_lt (tgt := 22) dX9_few_16 (by decide) (fun c4 => ?_) (fun c4 => ?_)
      · have h := bw_it c4 h
        refine rw_aload_n dX9_few_22 rfl rfl ?_
        refine rw_iload_n dX9_few_23 rfl rfl ?_
        obtain ⟨q5, hq5, h⟩ := bw_bd h
        refine rw_callV1 dX9_few_24 ln_RX9_242 mv_X9_chooseFew (sh_x w) (bw_kl (by decide)) (ct_X9_chooseFew hq5) (Nat.le_of_ble_eq_true rfl) (Nat.le_of_ble_eq_true rfl) (bw_kki ?_)
        refine rw_istore_n dX9_few_27 rfl (by decide) ?_
        refine rw_iload_n dX9_few_28 rfl rfl ?_
        refine rw_if_lt (tgt := 36) dX9_few_29 (by decide) (fun c6 => ?_) (fun c6 => ?_)
        · have h := bw_it c6 h
          refine rw_iload_n dX9_few_36 rfl rfl ?_
          have h := Option.some.inj h
          subst h
          exact rw_iret dX9_few_37 ⟨rfl, rfl⟩
        · have h := bw_if c6 h
          refine rw_iload_n dX9_few_32 rfl rfl ?_
          refine rw_if_ge (tgt := 38) dX9_few_33 (by decide) (fun c7 => ?_) (fun c7 => ?_)
          · have h := bw_it c7 h
            refine rw_aload_n dX9_few_38 rfl rfl ?_
            refine rw_get dX9_few_39 fl_RX9_67 (sh_x w) (bw_kl (by decide)) rfl ?_
            refine rw_iload_n dX9_few_42 rfl rfl ?_
            obtain ⟨g8, h⟩ := bw_gd h
            refine rw_iald dX9_few_43 (sh_chosen w) (bw_kl (by decide)) (bw_in g8) ?_
            have h := Option.some.inj h
            subst h
            exact rw_iret dX9_few_44 ⟨rfl, rfl⟩
          · have h := bw_if c7 h
            refine rw_iload_n dX9_few_36 rfl rfl ?_
            have h := Option.some.inj h
            subst h
            exact rw_iret dX9_few_37 ⟨rfl, rfl⟩
      · have h := bw_if c4 h
        refine rw_ldc dX9_few_19 cn_RX9_83 ?_
        have h := Option.some.inj h
        subst h
        exact rw_iret dX9_few_21 ⟨rfl, rfl⟩
set_option maxRecDepth 20000 in
set_option maxHeartbeats 1000000 in
theorem ct_X9_pricesApart {w : WE} {M : Mem} {v1 : Int32} {out : Int32 × Mem} (h : f_X9_pricesApart M v1 = some out) : Ct w 6 yX9_pricesApart cX9_pricesApart 4 (some .int) [.ref (bw_ad w 0), .int v1] M (bw_pi (out.1) out.2) := by
  refine Ct.of (own := RX9) rfl (by decide) (by intro v hv; simp only [List.mem_cons, List.not_mem_nil, or_false] at hv; rcases hv with rfl | rfl <;> first | rfl | exact bw_cat_rf _) (Nat.le_of_ble_eq_true rfl) ?_
  unfold f_X9_pricesApart at h
  show RW w 6 0 0 0 0 cX9_pricesApart RX9 4 (some .int) (bw_Z w (bw_pi (out.1) out.2)) 0 [(0, .ref (bw_ad w 0)), (1, .int v1)] [] M
  refine rw_aload_n dX9_pricesApart_0 rfl rfl ?_
  refine rw_get dX9_pricesApart_1 fl_RX9_22 (sh_x w) (bw_kl (by decide)) rfl ?_
  refine rw_aload_n dX9_pricesApart_4 rfl rfl ?_
  refine rw_get dX9_pricesApart_5 fl_RX9_10 (sh_x w) (bw_kl (by decide)) rfl ?_
  refine rw_iload_n dX9_pricesApart_8 rfl rfl ?_
  refine rw_iconst (v := 1) dX9_pricesApart_9 (by decide) ?_
  obtain ⟨q1, hq1, h⟩ := bw_bd h
  refine rw_callV3 dX9_pricesApart_10 ln_RX9_274 mv_X2_keepOnly (sh_plan w) (bw_kl (by decide)) (ct_X2_keepOnly (by decide) hq1) (Nat.le_of_ble_eq_true rfl) (Nat.le_of_ble_eq_true rfl) (bw_kkv ?_)
  refine rw_aload_n dX9_pricesApart_13 rfl rfl ?_
  refine rw_get dX9_pricesApart_14 fl_RX9_22 (sh_x w) (bw_kl (by decide)) rfl ?_
  obtain ⟨q2, hq2, h⟩ := bw_bd h
  refine rw_callV0 dX9_pricesApart_17 ln_RX9_253 mv_X2_leastPrices (sh_plan w) (bw_kl (by decide)) (ct_X2_leastPrices hq2) (Nat.le_of_ble_eq_true rfl) (Nat.le_of_ble_eq_true rfl) (bw_kki ?_)
  refine rw_istore_n dX9_pricesApart_20 rfl (by decide) ?_
  refine rw_aload_n dX9_pricesApart_21 rfl rfl ?_
  refine rw_get dX9_pricesApart_22 fl_RX9_22 (sh_x w) (bw_kl (by decide)) rfl ?_
  refine rw_aload_n dX9_pricesApart_25 rfl rfl ?_
  refine rw_get dX9_pricesApart_26 fl_RX9_10 (sh_x w) (bw_kl (by decide)) rfl ?_
  refine rw_iload_n dX9_pricesApart_29 rfl rfl ?_
  refine rw_iconst (v := 0) dX9_pricesApart_30 (by decide) ?_
  obtain ⟨q3, hq3, h⟩ := bw_bd h
  refine rw_callV3 dX9_pricesApart_31 ln_RX9_274 mv_X2_keepOnly (sh_plan w) (bw_kl (by decide)) (ct_X2_keepOnly (by decide) hq3) (Nat.le_of_ble_eq_true rfl) (Nat.le_of_ble_eq_true rfl) (bw_kkv ?_)
  refine rw_aload_n dX9_pricesApart_34 rfl rfl ?_
  refine rw_get dX9_pricesApart_35 fl_RX9_22 (sh_x w) (bw_kl (by decide)) rfl ?_
  obtain ⟨q4, hq4, h⟩ := bw_bd h
  refine rw_callV0 dX9_pricesApart_38 ln_RX9_253 mv_X2_leastPrices (sh_plan w) (bw_kl (by decide)) (ct_X2_leastPrices hq4) (Nat.le_of_ble_eq_true rfl) (Nat.le_of_ble_eq_true rfl) (bw_kki ?_)
  refine rw_istore_n dX9_pricesApart_41 rfl (by decide) ?_
  refine rw_iload_n dX9_pricesApart_42 rfl rfl ?_
  refine rw_if_lt (tgt := 50) dX9_pricesApart_43 (by decide) (fun c5 => ?_) (fun c5 => ?_)
  · have h := bw_it c5 h
    refine rw_ldc dX9_pricesApart_50 cn_RX9_121 ?_
    refine rw_goto (tgt := 67) dX9_pricesApart_52 (by decide) ?_
    have h := Option.some.inj h
    subst h
    exact rw_iret dX9_pricesApart_67 ⟨rfl, rfl⟩
  · have h := bw_if c5 h
    refine rw_iload_n dX9_pricesApart_46 rfl rfl ?_
    refine rw_if_ge (tgt := 55) dX9_pricesApart_47 (by decide) (fun c6 => ?_) (fun c6 => ?_)
    · have h := bw_it c6 h
      refine rw_iload_n dX9_pricesApart_55 rfl rfl ?_
      refine rw_iload_n dX9_pricesApart_56 rfl rfl ?_
      refine rw_iadd dX9_pricesApart_57 ?_
      refine rw_aload_n dX9_pricesApart_58 rfl rfl ?_
      refine rw_get dX9_pricesApart_59 fl_RX9_10 (sh_x w) (bw_kl (by decide)) rfl ?_
      refine rw_iload_n dX9_pricesApart_62 rfl rfl ?_
      obtain ⟨q7, hq7, h⟩ := bw_bd h
      refine rw_callV1 dX9_pricesApart_63 ln_RX9_278 mv_X6_walks (sh_now w) (bw_kl (by decide)) (ct_X6_walks (by decide) hq7) (Nat.le_of_ble_eq_true rfl) (Nat.le_of_ble_eq_true rfl) (bw_kki ?_)
      refine rw_iadd dX9_pricesApart_66 ?_
      have h := Option.some.inj h
      subst h
      exact rw_iret dX9_pricesApart_67 ⟨rfl, rfl⟩
    · have h := bw_if c6 h
      refine rw_ldc dX9_pricesApart_50 cn_RX9_121 ?_
      refine rw_goto (tgt := 67) dX9_pricesApart_52 (by decide) ?_
      have h := Option.some.inj h
      subst h
      exact rw_iret dX9_pricesApart_67 ⟨rfl, rfl⟩
set_option maxRecDepth 20000 in
set_option maxHeartbeats 1000000 in
theorem ct_X9_apart {w : WE} {M : Mem} {v1 : Int32} {out : Int32 × Mem} (h : f_X9_apart M v1 = some out) : Ct w 7 yX9_apart cX9_apart 2 (some .int) [.ref (bw_ad w 0), .int v1] M (bw_pi (out.1) out.2) := by
  refine Ct.of (own := RX9) rfl (by decide) (by intro v hv; simp only [List.mem_cons, List.not_mem_nil, or_false] at hv; rcases hv with rfl | rfl <;> first | rfl | exact bw_cat_rf _) (Nat.le_of_ble_eq_true rfl) ?_
  unfold f_X9_apart at h
  show RW w 7 0 0 0 0 cX9_apart RX9 2 (some .int) (bw_Z w (bw_pi (out.1) out.2)) 0 [(0, .ref (bw_ad w 0)), (1, .int v1)] [] M
  refine rw_iload_n dX9_apart_0 rfl rfl ?_
  refine rw_iconst (v := 1) dX9_apart_1 (by decide) ?_
  refine rw_bipush (v := 100) dX9_apart_2 (by decide) ?_
  refine rw_callS3 dX9_apart_4 ln_RX9_79 ms_X9_isWithin (ct_X9_isWithin rfl) (Nat.le_of_ble_eq_true rfl) (Nat.le_of_ble_eq_true rfl) (bw_kkz (fun z1 => ?_))
  refine rw_if_ne (tgt := 13) dX9_apart_7 (by decide) (fun c2 => ?_) (fun c2 => ?_)
  · have h := bw_if c2 h
    refine rw_aload_n dX9_apart_13 rfl rfl ?_
    refine rw_get dX9_apart_14 fl_RX9_22 (sh_x w) (bw_kl (by decide)) rfl ?_
    refine rw_aload_n dX9_apart_17 rfl rfl ?_
    refine rw_get dX9_apart_18 fl_RX9_10 (sh_x w) (bw_kl (by decide)) rfl ?_
    obtain ⟨q3, hq3, h⟩ := bw_bd h
    refine rw_callV1 dX9_apart_21 ln_RX9_109 mv_X2_load (sh_plan w) (bw_kl (by decide)) (ct_X2_load (by decide) hq3) (Nat.le_of_ble_eq_true rfl) (Nat.le_of_ble_eq_true rfl) (bw_kkr ?_)
    refine rw_pop dX9_apart_24 rfl ?_
    refine rw_aload_n dX9_apart_25 rfl rfl ?_
    refine rw_iload_n dX9_apart_26 rfl rfl ?_
    obtain ⟨q4, hq4, h⟩ := bw_bd h
    refine rw_callV1 dX9_apart_27 ln_RX9_271 mv_X9_pricesApart (sh_x w) (bw_kl (by decide)) (ct_X9_pricesApart hq4) (Nat.le_of_ble_eq_true rfl) (Nat.le_of_ble_eq_true rfl) (bw_kki ?_)
    have h := Option.some.inj h
    subst h
    exact rw_iret dX9_apart_30 ⟨rfl, rfl⟩
  · have h := bw_it c2 h
    refine rw_ldc dX9_apart_10 cn_RX9_83 ?_
    have h := Option.some.inj h
    subst h
    exact rw_iret dX9_apart_12 ⟨rfl, rfl⟩
set_option maxRecDepth 20000 in
set_option maxHeartbeats 1000000 in
theorem th_X9_edge_L24 {w : WE} {out : Int32 × Mem} : ∀ (n : Nat) (v1 : Int32) (v2 : Int32) (v3 : Int32) (M : Mem), f_X9_edge_L24 n v1 v2 v3 M = some out → RW w 7 0 0 0 0 cX9_edge RX9 5 (some .int) (bw_Z w (bw_pi (out.1) out.2)) 24 [(0, .ref (bw_ad w 0)), (1, .int v1), (2, .int v2), (3, .int v3)] [] M := by
  intro n
  induction n with
  | zero => intro v1 v2 v3 M h; cases h
  | succ n ih =>
    intro v1 v2 v3 M h
    rw [f_X9_edge_L24] at h
    refine rw_iload_n dX9_edge_24 rfl rfl ?_
    refine rw_iconst (v := 1) dX9_edge_25 (by decide) ?_
    refine rw_icmp_lt (tgt := 73) dX9_edge_26 (by decide) (fun c3 => ?_) (fun c3 => ?_)
    · have h := bw_it c3 h
      refine rw_iload_n dX9_edge_73 rfl rfl ?_
      refine rw_if_ge (tgt := 82) dX9_edge_74 (by decide) (fun c4 => ?_) (fun c4 => ?_)
      · have h := bw_it c4 h
        refine rw_iload_n dX9_edge_82 rfl rfl ?_
        have h := Option.some.inj h
        subst h
        exact rw_iret dX9_edge_83 ⟨rfl, rfl⟩
      · have h := bw_if c4 h
        refine rw_ldc dX9_edge_77 cn_RX9_121 ?_
        refine rw_goto (tgt := 83) dX9_edge_79 (by decide) ?_
        have h := Option.some.inj h
        subst h
        exact rw_iret dX9_edge_83 ⟨rfl, rfl⟩
    · have h := bw_if c3 h
      refine rw_aload_n dX9_edge_29 rfl rfl ?_
      refine rw_get dX9_edge_30 fl_RX9_10 (sh_x w) (bw_kl (by decide)) rfl ?_
      refine rw_iload_n dX9_edge_33 rfl rfl ?_
      obtain ⟨q5, hq5, h⟩ := bw_bd h
      refine rw_callV1 dX9_edge_34 ln_RX9_281 mv_X6_hasHeight (sh_now w) (bw_kl (by decide)) (ct_X6_hasHeight (by decide) hq5) (Nat.le_of_ble_eq_true rfl) (Nat.le_of_ble_eq_true rfl) (bw_kkz (fun z6 => ?_))
      refine rw_if_eq (tgt := 67) dX9_edge_37 (by decide) (fun c7 => ?_) (fun c7 => ?_)
      · have h := bw_it c7 h
        refine rw_dec dX9_edge_67 rfl (by decide) ?_
        refine rw_goto (tgt := 24) dX9_edge_70 (by decide) ?_
        exact rw_sub (rw_lc rfl (rw_lc rfl (rw_lc rfl (rw_lc rfl rw_lz)))) (ih v1 v2 (v3 - 1) M h)
      · have h := bw_if c7 h
        refine rw_aload_n dX9_edge_40 rfl rfl ?_
        refine rw_iload_n dX9_edge_41 rfl rfl ?_
        obtain ⟨q8, hq8, h⟩ := bw_bd h
        refine rw_callV1 dX9_edge_42 ln_RX9_271 mv_X9_pricesApart (sh_x w) (bw_kl (by decide)) (ct_X9_pricesApart hq8) (Nat.le_of_ble_eq_true rfl) (Nat.le_of_ble_eq_true rfl) (bw_kki ?_)
        refine rw_istore dX9_edge_45 (by decide) ?_
        refine rw_iload dX9_edge_47 rfl ?_
        have key : RW w 7 0 0 0 0 cX9_edge RX9 5 (some .int) (bw_Z w (bw_pi (out.1) out.2)) 67 [(0, .ref (bw_ad w 0)), (1, .int (if q8.1 < 0 then v1 else (if v2 < 0 then v3 else (if v2 ≤ q8.1 then v1 else v3)))), (2, .int (if q8.1 < 0 then v2 else (if v2 < 0 then q8.1 else (if v2 ≤ q8.1 then v2 else q8.1)))), (3, .int v3)] [] q8.2 := by
          refine rw_dec dX9_edge_67 rfl (by decide) ?_
          refine rw_goto (tgt := 24) dX9_edge_70 (by decide) ?_
          exact rw_sub (rw_lc rfl (rw_lc rfl (rw_lc rfl (rw_lc rfl rw_lz)))) (ih (if q8.1 < 0 then v1 else (if v2 < 0 then v3 else (if v2 ≤ q8.1 then v1 else v3))) (if q8.1 < 0 then v2 else (if v2 < 0 then q8.1 else (if v2 ≤ q8.1 then v2 else q8.1))) (v3 - 1) q8.2 h)
        refine rw_if_lt (tgt := 67) dX9_edge_49 (by decide) (fun c9 => ?_) (fun c9 => ?_)
        · simp only [if_pos c9] at key
          exact rw_sub (rw_lc rfl (rw_lc rfl (rw_lc rfl (rw_lc rfl rw_lz)))) key
        · refine rw_iload_n dX9_edge_52 rfl rfl ?_
          refine rw_if_lt (tgt := 62) dX9_edge_53 (by decide) (fun c10 => ?_) (fun c10 => ?_)
          · refine rw_iload dX9_edge_62 rfl ?_
            refine rw_istore_n dX9_edge_64 rfl (by decide) ?_
            refine rw_iload_n dX9_edge_65 rfl rfl ?_
            refine rw_istore_n dX9_edge_66 rfl (by decide) ?_
            simp only [if_neg c9, if_pos c10] at key
            exact rw_sub (rw_lc rfl (rw_lc rfl (rw_lc rfl (rw_lc rfl rw_lz)))) key
          · refine rw_iload dX9_edge_56 rfl ?_
            refine rw_iload_n dX9_edge_58 rfl rfl ?_
            refine rw_icmp_ge (tgt := 67) dX9_edge_59 (by decide) (fun c11 => ?_) (fun c11 => ?_)
            · simp only [if_neg c9, if_neg c10, if_pos c11] at key
              exact rw_sub (rw_lc rfl (rw_lc rfl (rw_lc rfl (rw_lc rfl rw_lz)))) key
            · refine rw_iload dX9_edge_62 rfl ?_
              refine rw_istore_n dX9_edge_64 rfl (by decide) ?_
              refine rw_iload_n dX9_edge_65 rfl rfl ?_
              refine rw_istore_n dX9_edge_66 rfl (by decide) ?_
              simp only [if_neg c9, if_neg c10, if_neg c11] at key
              exact rw_sub (rw_lc rfl (rw_lc rfl (rw_lc rfl (rw_lc rfl rw_lz)))) key
set_option maxRecDepth 20000 in
set_option maxHeartbeats 1000000 in
theorem ct_X9_edge {w : WE} {M : Mem} {out : Int32 × Mem} (h : f_X9_edge M = some out) : Ct w 7 yX9_edge cX9_edge 5 (some .int) [.ref (bw_ad w 0)] M (bw_pi (out.1) out.2) := by
  refine Ct.of (own := RX9) rfl (by decide) (by intro v hv; rw [List.mem_singleton.mp hv]; first | rfl | exact bw_cat_rf _) (Nat.le_of_ble_eq_true rfl) ?_
  unfold f_X9_edge at h
  show RW w 7 0 0 0 0 cX9_edge RX9 5 (some .int) (bw_Z w (bw_pi (out.1) out.2)) 0 [(0, .ref (bw_ad w 0))] [] M
  refine rw_aload_n dX9_edge_0 rfl rfl ?_
  refine rw_get dX9_edge_1 fl_RX9_22 (sh_x w) (bw_kl (by decide)) rfl ?_
  refine rw_aload_n dX9_edge_4 rfl rfl ?_
  refine rw_get dX9_edge_5 fl_RX9_10 (sh_x w) (bw_kl (by decide)) rfl ?_
  obtain ⟨q1, hq1, h⟩ := bw_bd h
  refine rw_callV1 dX9_edge_8 ln_RX9_109 mv_X2_load (sh_plan w) (bw_kl (by decide)) (ct_X2_load (by decide) hq1) (Nat.le_of_ble_eq_true rfl) (Nat.le_of_ble_eq_true rfl) (bw_kkr ?_)
  refine rw_pop dX9_edge_11 rfl ?_
  refine rw_bipush (v := 100) dX9_edge_12 (by decide) ?_
  refine rw_istore_n dX9_edge_14 rfl (by decide) ?_
  refine rw_aload_n dX9_edge_15 rfl rfl ?_
  refine rw_iload_n dX9_edge_16 rfl rfl ?_
  obtain ⟨q2, hq2, h⟩ := bw_bd h
  refine rw_callV1 dX9_edge_17 ln_RX9_271 mv_X9_pricesApart (sh_x w) (bw_kl (by decide)) (ct_X9_pricesApart hq2) (Nat.le_of_ble_eq_true rfl) (Nat.le_of_ble_eq_true rfl) (bw_kki ?_)
  refine rw_istore_n dX9_edge_20 rfl (by decide) ?_
  refine rw_bipush (v := 99) dX9_edge_21 (by decide) ?_
  refine rw_istore_n dX9_edge_23 rfl (by decide) ?_
  exact rw_sub (rw_lc rfl (rw_lc rfl (rw_lc rfl (rw_lc rfl rw_lz)))) (th_X9_edge_L24 bw_fu (100 : Int32) q2.1 (99 : Int32) q2.2 h)
set_option maxRecDepth 20000 in
set_option maxHeartbeats 1000000 in
theorem ct_X9_feed {w : WE} {M : Mem} {v1 : Int32} {v2 : Int32} {v3 : Int32} {out : Int32 × Mem} (h : f_X9_feed M v1 v2 v3 = some out) : Ct w 1 yX9_feed cX9_feed 4 (some .int) [.ref (bw_ad w 0), .int v1, .int v2, .int v3] M (bw_pi (out.1) out.2) := by
  refine Ct.of (own := RX9) rfl (by decide) (by intro v hv; simp only [List.mem_cons, List.not_mem_nil, or_false] at hv; rcases hv with rfl | rfl | rfl | rfl <;> first | rfl | exact bw_cat_rf _) (Nat.le_of_ble_eq_true rfl) ?_
  unfold f_X9_feed at h
  show RW w 1 0 0 0 0 cX9_feed RX9 4 (some .int) (bw_Z w (bw_pi (out.1) out.2)) 0 [(0, .ref (bw_ad w 0)), (1, .int v1), (2, .int v2), (3, .int v3)] [] M
  refine rw_aload_n dX9_feed_0 rfl rfl ?_
  refine rw_get dX9_feed_1 fl_RX9_44 (sh_x w) (bw_kl (by decide)) rfl ?_
  refine rw_get dX9_feed_4 fl_RX9_284 (sh_tape w) (bw_kl (by decide)) rfl ?_
  refine rw_bipush (v := 84) dX9_feed_7 (by decide) ?_
  refine rw_icmp_le (tgt := 15) dX9_feed_9 (by decide) (fun c1 => ?_) (fun c1 => ?_)
  · have h := bw_it c1 h
    refine rw_aload_n dX9_feed_15 rfl rfl ?_
    refine rw_get dX9_feed_16 fl_RX9_44 (sh_x w) (bw_kl (by decide)) rfl ?_
    refine rw_iload_n dX9_feed_19 rfl rfl ?_
    obtain ⟨q2, hq2, h⟩ := bw_bd h
    refine rw_callV1 dX9_feed_20 ln_RX9_289 mv_X7_add (sh_tape w) (bw_kl (by decide)) (ct_X7_add hq2) (Nat.le_of_ble_eq_true rfl) (Nat.le_of_ble_eq_true rfl) (bw_kkv ?_)
    refine rw_aload_n dX9_feed_23 rfl rfl ?_
    refine rw_get dX9_feed_24 fl_RX9_44 (sh_x w) (bw_kl (by decide)) rfl ?_
    refine rw_iload_n dX9_feed_27 rfl rfl ?_
    obtain ⟨q3, hq3, h⟩ := bw_bd h
    refine rw_callV1 dX9_feed_28 ln_RX9_289 mv_X7_add (sh_tape w) (bw_kl (by decide)) (ct_X7_add hq3) (Nat.le_of_ble_eq_true rfl) (Nat.le_of_ble_eq_true rfl) (bw_kkv ?_)
    refine rw_aload_n dX9_feed_31 rfl rfl ?_
    refine rw_get dX9_feed_32 fl_RX9_44 (sh_x w) (bw_kl (by decide)) rfl ?_
    refine rw_iload_n dX9_feed_35 rfl rfl ?_
    obtain ⟨q4, hq4, h⟩ := bw_bd h
    refine rw_callV1 dX9_feed_36 ln_RX9_289 mv_X7_add (sh_tape w) (bw_kl (by decide)) (ct_X7_add hq4) (Nat.le_of_ble_eq_true rfl) (Nat.le_of_ble_eq_true rfl) (bw_kkv ?_)
    refine rw_aload_n dX9_feed_39 rfl rfl ?_
    refine rw_get dX9_feed_40 fl_RX9_44 (sh_x w) (bw_kl (by decide)) rfl ?_
    refine rw_get dX9_feed_43 fl_RX9_284 (sh_tape w) (bw_kl (by decide)) rfl ?_
    have h := Option.some.inj h
    subst h
    exact rw_iret dX9_feed_46 ⟨rfl, rfl⟩
  · have h := bw_if c1 h
    refine rw_ldc dX9_feed_12 cn_RX9_88 ?_
    have h := Option.some.inj h
    subst h
    exact rw_iret dX9_feed_14 ⟨rfl, rfl⟩
set_option maxRecDepth 20000 in
set_option maxHeartbeats 1000000 in
theorem ct_X9_trim {w : WE} {M : Mem} {v1 : Int32} {out : Int32 × Mem} (h : f_X9_trim M v1 = some out) : Ct w 1 yX9_trim cX9_trim 2 (some .int) [.ref (bw_ad w 0), .int v1] M (bw_pi (out.1) out.2) := by
  refine Ct.of (own := RX9) rfl (by decide) (by intro v hv; simp only [List.mem_cons, List.not_mem_nil, or_false] at hv; rcases hv with rfl | rfl <;> first | rfl | exact bw_cat_rf _) (Nat.le_of_ble_eq_true rfl) ?_
  unfold f_X9_trim at h
  show RW w 1 0 0 0 0 cX9_trim RX9 2 (some .int) (bw_Z w (bw_pi (out.1) out.2)) 0 [(0, .ref (bw_ad w 0)), (1, .int v1)] [] M
  refine rw_iload_n dX9_trim_0 rfl rfl ?_
  refine rw_iconst (v := 0) dX9_trim_1 (by decide) ?_
  refine rw_aload_n dX9_trim_2 rfl rfl ?_
  refine rw_get dX9_trim_3 fl_RX9_44 (sh_x w) (bw_kl (by decide)) rfl ?_
  refine rw_get dX9_trim_6 fl_RX9_284 (sh_tape w) (bw_kl (by decide)) rfl ?_
  refine rw_callS3 dX9_trim_9 ln_RX9_79 ms_X9_isWithin (ct_X9_isWithin rfl) (Nat.le_of_ble_eq_true rfl) (Nat.le_of_ble_eq_true rfl) (bw_kkz (fun z1 => ?_))
  refine rw_if_ne (tgt := 18) dX9_trim_12 (by decide) (fun c2 => ?_) (fun c2 => ?_)
  · have h := bw_if c2 h
    refine rw_aload_n dX9_trim_18 rfl rfl ?_
    refine rw_get dX9_trim_19 fl_RX9_44 (sh_x w) (bw_kl (by decide)) rfl ?_
    refine rw_iload_n dX9_trim_22 rfl rfl ?_
    refine rw_puti dX9_trim_23 fl_RX9_284 fp_7_1 (sh_tape w) (bw_kl (by decide)) (by decide) (fun _ => rfl) (fun _ => Nat.le_of_ble_eq_true rfl) ?_
    obtain ⟨M3, hM3, h⟩ := bw_mlE h
    refine rw_m hM3.symm ?_
    refine rw_iload_n dX9_trim_26 rfl rfl ?_
    have h := Option.some.inj h
    subst h
    exact rw_iret dX9_trim_27 ⟨rfl, rfl⟩
  · have h := bw_it c2 h
    refine rw_ldc dX9_trim_15 cn_RX9_83 ?_
    have h := Option.some.inj h
    subst h
    exact rw_iret dX9_trim_17 ⟨rfl, rfl⟩
set_option maxRecDepth 20000 in
set_option maxHeartbeats 1000000 in
theorem ct_X9_textTold {w : WE} {M : Mem} {v1 : Int32} {v2 : Int32} {out : Int32} (h : f_X9_textTold M v1 v2 = some out) : Ct w 2 yX9_textTold cX9_textTold 4 (some .int) [.ref (bw_ad w 0), .int v1, .int v2] M (bw_pi (out) M) := by
  refine Ct.of (own := RX9) rfl (by decide) (by intro v hv; simp only [List.mem_cons, List.not_mem_nil, or_false] at hv; rcases hv with rfl | rfl | rfl <;> first | rfl | exact bw_cat_rf _) (Nat.le_of_ble_eq_true rfl) ?_
  unfold f_X9_textTold at h
  show RW w 2 0 0 0 0 cX9_textTold RX9 4 (some .int) (bw_Z w (bw_pi (out) M)) 0 [(0, .ref (bw_ad w 0)), (1, .int v1), (2, .int v2)] [] M
  refine rw_aload_n dX9_textTold_0 rfl rfl ?_
  refine rw_get dX9_textTold_1 fl_RX9_10 (sh_x w) (bw_kl (by decide)) rfl ?_
  refine rw_iload_n dX9_textTold_4 rfl rfl ?_
  obtain ⟨q1, hq1, h⟩ := bw_bd h
  refine rw_callV1 dX9_textTold_5 ln_RX9_307 mv_X6_textAt (sh_now w) (bw_kl (by decide)) (ct_X6_textAt (by decide) hq1) (Nat.le_of_ble_eq_true rfl) (Nat.le_of_ble_eq_true rfl) (bw_kkr ?_)
  refine rw_astore_nQ dX9_textTold_8 rfl (by decide) ?_
  refine rw_aload_nQ dX9_textTold_9 rfl rfl ?_
  refine rw_ifnullL (tgt := 22) dX9_textTold_10 (by decide) (fun c2 => ?_) (fun c2 => ?_)
  · have h := bw_it c2 h
    refine rw_ldc dX9_textTold_22 cn_RX9_83 ?_
    have h := Option.some.inj h
    subst h
    exact rw_iret dX9_textTold_24 ⟨rfl, rfl⟩
  · have h := bw_if c2 h
    refine rw_iload_n dX9_textTold_13 rfl rfl ?_
    refine rw_iconst (v := 0) dX9_textTold_14 (by decide) ?_
    refine rw_iconst (v := 1) dX9_textTold_15 (by decide) ?_
    refine rw_callS3 dX9_textTold_16 ln_RX9_79 ms_X9_isWithin (ct_X9_isWithin rfl) (Nat.le_of_ble_eq_true rfl) (Nat.le_of_ble_eq_true rfl) (bw_kkz (fun z3 => ?_))
    refine rw_if_ne (tgt := 25) dX9_textTold_19 (by decide) (fun c4 => ?_) (fun c4 => ?_)
    · have h := bw_if c4 h
      refine rw_iload_n dX9_textTold_25 rfl rfl ?_
      refine rw_if_ne (tgt := 36) dX9_textTold_26 (by decide) (fun c5 => ?_) (fun c5 => ?_)
      · have h := bw_if c5 h
        refine rw_aload_nQ dX9_textTold_36 rfl rfl ?_
        obtain ⟨g6, h⟩ := bw_gd h
        refine rw_getL dX9_textTold_37 fl_RX9_316 g6 rfl ?_
        have h := Option.some.inj h
        subst h
        exact rw_iret dX9_textTold_40 ⟨rfl, rfl⟩
      · have h := bw_it c5 h
        refine rw_aload_nQ dX9_textTold_29 rfl rfl ?_
        obtain ⟨g7, h⟩ := bw_gd h
        refine rw_getL dX9_textTold_30 fl_RX9_311 g7 rfl ?_
        refine rw_goto (tgt := 40) dX9_textTold_33 (by decide) ?_
        have h := Option.some.inj h
        subst h
        exact rw_iret dX9_textTold_40 ⟨rfl, rfl⟩
    · have h := bw_it c4 h
      refine rw_ldc dX9_textTold_22 cn_RX9_83 ?_
      have h := Option.some.inj h
      subst h
      exact rw_iret dX9_textTold_24 ⟨rfl, rfl⟩
set_option maxRecDepth 20000 in
set_option maxHeartbeats 1000000 in
theorem ct_X9_why {w : WE} {M : Mem} {v1 : Int32} {out : Int32} (h : f_X9_why M v1 = some out) : Ct w 1 yX9_why cX9_why 2 (some .int) [.ref (bw_ad w 0), .int v1] M (bw_pi (out) M) := by
  refine Ct.of (own := RX9) rfl (by decide) (by intro v hv; simp only [List.mem_cons, List.not_mem_nil, or_false] at hv; rcases hv with rfl | rfl <;> first | rfl | exact bw_cat_rf _) (Nat.le_of_ble_eq_true rfl) ?_
  unfold f_X9_why at h
  show RW w 1 0 0 0 0 cX9_why RX9 2 (some .int) (bw_Z w (bw_pi (out) M)) 0 [(0, .ref (bw_ad w 0)), (1, .int v1)] [] M
  refine rw_iload_n dX9_why_0 rfl rfl ?_
  refine rw_iconst (v := 0) dX9_why_1 (by decide) ?_
  refine rw_iconst (v := 2) dX9_why_2 (by decide) ?_
  refine rw_callS3 dX9_why_3 ln_RX9_79 ms_X9_isWithin (ct_X9_isWithin rfl) (Nat.le_of_ble_eq_true rfl) (Nat.le_of_ble_eq_true rfl) (bw_kkz (fun z1 => ?_))
  refine rw_if_ne (tgt := 12) dX9_why_6 (by decide) (fun c2 => ?_) (fun c2 => ?_)
  · have h := bw_if c2 h
    refine rw_aload_n dX9_why_12 rfl rfl ?_
    refine rw_get dX9_why_13 fl_RX9_10 (sh_x w) (bw_kl (by decide)) rfl ?_
    refine rw_iload_n dX9_why_16 rfl rfl ?_
    obtain ⟨q3, hq3, h⟩ := bw_bd h
    refine rw_callV1 dX9_why_17 ln_RX9_319 mv_X6_lastTextOf (sh_now w) (bw_kl (by decide)) (ct_X6_lastTextOf (by decide) hq3) (Nat.le_of_ble_eq_true rfl) (Nat.le_of_ble_eq_true rfl) (bw_kki ?_)
    have h := Option.some.inj h
    subst h
    exact rw_iret dX9_why_20 ⟨rfl, rfl⟩
  · have h := bw_it c2 h
    refine rw_ldc dX9_why_9 cn_RX9_83 ?_
    have h := Option.some.inj h
    subst h
    exact rw_iret dX9_why_11 ⟨rfl, rfl⟩
set_option maxRecDepth 20000 in
set_option maxHeartbeats 1000000 in
theorem th_X9_fullBy_L47 {w : WE} {out : Int32 × Mem} : ∀ (n : Nat) (v1 : Int32) (M : Mem), f_X9_fullBy_L47 n v1 M = some out → RW w 7 0 0 0 0 cX9_fullBy RX9 2 (some .int) (bw_Z w (bw_pi (out.1) out.2)) 47 [(0, .ref (bw_ad w 0)), (1, .int v1)] [] M := by
  intro n
  induction n with
  | zero => intro v1 M h; cases h
  | succ n ih =>
    intro v1 M h
    rw [f_X9_fullBy_L47] at h
    refine rw_iload_n dX9_fullBy_47 rfl rfl ?_
    refine rw_bipush (v := 60) dX9_fullBy_48 (by decide) ?_
    refine rw_icmp_gt (tgt := 86) dX9_fullBy_50 (by decide) (fun c7 => ?_) (fun c7 => ?_)
    · have h := bw_it c7 h
      refine rw_ldc dX9_fullBy_86 cn_RX9_121 ?_
      have h := Option.some.inj h
      subst h
      exact rw_iret dX9_fullBy_88 ⟨rfl, rfl⟩
    · have h := bw_if c7 h
      refine rw_aload_n dX9_fullBy_53 rfl rfl ?_
      refine rw_get dX9_fullBy_54 fl_RX9_29 (sh_x w) (bw_kl (by decide)) rfl ?_
      refine rw_iload_n dX9_fullBy_57 rfl rfl ?_
      obtain ⟨q8, hq8, h⟩ := bw_bd h
      refine rw_callV1 dX9_fullBy_58 ln_RX9_326 mv_X8_pass (sh_years w) (bw_kl (by decide)) (ct_X8_pass hq8) (Nat.le_of_ble_eq_true rfl) (Nat.le_of_ble_eq_true rfl) (bw_kkv ?_)
      refine rw_aload_n dX9_fullBy_61 rfl rfl ?_
      refine rw_get dX9_fullBy_62 fl_RX9_29 (sh_x w) (bw_kl (by decide)) rfl ?_
      obtain ⟨q9, hq9, h⟩ := bw_bd h
      refine rw_callV0 dX9_fullBy_65 ln_RX9_329 mv_X8_thickness (sh_years w) (bw_kl (by decide)) (ct_X8_thickness hq9) (Nat.le_of_ble_eq_true rfl) (Nat.le_of_ble_eq_true rfl) (bw_kki ?_)
      refine rw_aload_n dX9_fullBy_68 rfl rfl ?_
      refine rw_get dX9_fullBy_69 fl_RX9_10 (sh_x w) (bw_kl (by decide)) rfl ?_
      refine rw_get dX9_fullBy_72 fl_RX9_135 (sh_now w) (bw_kl (by decide)) rfl ?_
      refine rw_icmp_le (tgt := 80) dX9_fullBy_75 (by decide) (fun c10 => ?_) (fun c10 => ?_)
      · have h := bw_it c10 h
        refine rw_inc dX9_fullBy_80 rfl (by decide) ?_
        refine rw_goto (tgt := 47) dX9_fullBy_83 (by decide) ?_
        exact rw_sub (rw_lc rfl (rw_lc rfl rw_lz)) (ih (v1 + 1) q8 h)
      · have h := bw_if c10 h
        refine rw_iload_n dX9_fullBy_78 rfl rfl ?_
        have h := Option.some.inj h
        subst h
        exact rw_iret dX9_fullBy_79 ⟨rfl, rfl⟩
set_option maxRecDepth 20000 in
set_option maxHeartbeats 1000000 in
theorem ct_X9_fullBy {w : WE} {M : Mem} {out : Int32 × Mem} (h : f_X9_fullBy M = some out) : Ct w 7 yX9_fullBy cX9_fullBy 2 (some .int) [.ref (bw_ad w 0)] M (bw_pi (out.1) out.2) := by
  refine Ct.of (own := RX9) rfl (by decide) (by intro v hv; rw [List.mem_singleton.mp hv]; first | rfl | exact bw_cat_rf _) (Nat.le_of_ble_eq_true rfl) ?_
  unfold f_X9_fullBy at h
  show RW w 7 0 0 0 0 cX9_fullBy RX9 2 (some .int) (bw_Z w (bw_pi (out.1) out.2)) 0 [(0, .ref (bw_ad w 0))] [] M
  refine rw_aload_n dX9_fullBy_0 rfl rfl ?_
  refine rw_get dX9_fullBy_1 fl_RX9_22 (sh_x w) (bw_kl (by decide)) rfl ?_
  refine rw_aload_n dX9_fullBy_4 rfl rfl ?_
  refine rw_get dX9_fullBy_5 fl_RX9_10 (sh_x w) (bw_kl (by decide)) rfl ?_
  obtain ⟨q1, hq1, h⟩ := bw_bd h
  refine rw_callV1 dX9_fullBy_8 ln_RX9_109 mv_X2_load (sh_plan w) (bw_kl (by decide)) (ct_X2_load (by decide) hq1) (Nat.le_of_ble_eq_true rfl) (Nat.le_of_ble_eq_true rfl) (bw_kkr ?_)
  obtain ⟨q2, hq2, h⟩ := bw_bd h
  refine rw_callV0 dX9_fullBy_11 ln_RX9_113 mv_X2_settle (sh_plan w) (bw_kl (by decide)) (ct_X2_settle hq2) (Nat.le_of_ble_eq_true rfl) (Nat.le_of_ble_eq_true rfl) (bw_kkz (fun z3 => ?_))
  refine rw_if_eq (tgt := 27) dX9_fullBy_14 (by decide) (fun c4 => ?_) (fun c4 => ?_)
  · have h := bw_it c4 h
    refine rw_ldc dX9_fullBy_27 cn_RX9_121 ?_
    have h := Option.some.inj h
    subst h
    exact rw_iret dX9_fullBy_29 ⟨rfl, rfl⟩
  · have h := bw_if c4 h
    refine rw_aload_n dX9_fullBy_17 rfl rfl ?_
    refine rw_get dX9_fullBy_18 fl_RX9_22 (sh_x w) (bw_kl (by decide)) rfl ?_
    refine rw_get dX9_fullBy_21 fl_RX9_209 (sh_plan w) (bw_kl (by decide)) rfl ?_
    refine rw_if_ne (tgt := 30) dX9_fullBy_24 (by decide) (fun c5 => ?_) (fun c5 => ?_)
    · have h := bw_if c5 h
      refine rw_aload_n dX9_fullBy_30 rfl rfl ?_
      refine rw_get dX9_fullBy_31 fl_RX9_29 (sh_x w) (bw_kl (by decide)) rfl ?_
      refine rw_aload_n dX9_fullBy_34 rfl rfl ?_
      refine rw_get dX9_fullBy_35 fl_RX9_10 (sh_x w) (bw_kl (by decide)) rfl ?_
      refine rw_aload_n dX9_fullBy_38 rfl rfl ?_
      refine rw_get dX9_fullBy_39 fl_RX9_22 (sh_x w) (bw_kl (by decide)) rfl ?_
      obtain ⟨q6, hq6, h⟩ := bw_bd h
      refine rw_callV2 dX9_fullBy_42 ln_RX9_322 mv_X8_begin (sh_years w) (bw_kl (by decide)) (ct_X8_begin (by decide) hq6) (Nat.le_of_ble_eq_true rfl) (Nat.le_of_ble_eq_true rfl) (bw_kkv ?_)
      refine rw_iconst (v := 1) dX9_fullBy_45 (by decide) ?_
      refine rw_istore_n dX9_fullBy_46 rfl (by decide) ?_
      exact rw_sub (rw_lc rfl (rw_lc rfl rw_lz)) (th_X9_fullBy_L47 bw_fu (1 : Int32) q6 h)
    · have h := bw_it c5 h
      refine rw_ldc dX9_fullBy_27 cn_RX9_121 ?_
      have h := Option.some.inj h
      subst h
      exact rw_iret dX9_fullBy_29 ⟨rfl, rfl⟩
set_option maxRecDepth 20000 in
set_option maxHeartbeats 1000000 in
theorem th_X9_most_L69 {w : WE} {v1 : Int32} {v2 : Int32} {out : Int32 × Mem} : ∀ (n : Nat) (v3 : Int32) (M : Mem), f_X9_most_L69 v1 v2 n v3 M = some out → RW w 7 0 0 0 0 cX9_most RX9 4 (some .int) (bw_Z w (bw_pi (out.1) out.2)) 69 [(0, .ref (bw_ad w 0)), (1, .int v1), (2, .int v2), (3, .int v3)] [] M := by
  intro n
  induction n with
  | zero => intro v3 M h; cases h
  | succ n ih =>
    intro v3 M h
    rw [f_X9_most_L69] at h
    refine rw_iload_n dX9_most_69 rfl rfl ?_
    refine rw_iload_n dX9_most_70 rfl rfl ?_
    refine rw_icmp_gt (tgt := 88) dX9_most_71 (by decide) (fun c11 => ?_) (fun c11 => ?_)
    · have h := bw_it c11 h
      refine rw_iload_n dX9_most_88 rfl rfl ?_
      refine rw_if_ne (tgt := 102) dX9_most_89 (by decide) (fun c12 => ?_) (fun c12 => ?_)
      · have h := bw_if c12 h
        refine rw_aload_n dX9_most_102 rfl rfl ?_
        refine rw_get dX9_most_103 fl_RX9_29 (sh_x w) (bw_kl (by decide)) rfl ?_
        obtain ⟨q13, hq13, h⟩ := bw_bd h
        refine rw_callV0 dX9_most_106 ln_RX9_329 mv_X8_thickness (sh_years w) (bw_kl (by decide)) (ct_X8_thickness hq13) (Nat.le_of_ble_eq_true rfl) (Nat.le_of_ble_eq_true rfl) (bw_kki ?_)
        have h := Option.some.inj h
        subst h
        exact rw_iret dX9_most_109 ⟨rfl, rfl⟩
      · have h := bw_it c12 h
        refine rw_aload_n dX9_most_92 rfl rfl ?_
        refine rw_get dX9_most_93 fl_RX9_29 (sh_x w) (bw_kl (by decide)) rfl ?_
        obtain ⟨q14, hq14, h⟩ := bw_bd h
        refine rw_callV0 dX9_most_96 ln_RX9_332 mv_X8_thickest (sh_years w) (bw_kl (by decide)) (ct_X8_thickest hq14) (Nat.le_of_ble_eq_true rfl) (Nat.le_of_ble_eq_true rfl) (bw_kki ?_)
        refine rw_goto (tgt := 109) dX9_most_99 (by decide) ?_
        have h := Option.some.inj h
        subst h
        exact rw_iret dX9_most_109 ⟨rfl, rfl⟩
    · have h := bw_if c11 h
      refine rw_aload_n dX9_most_74 rfl rfl ?_
      refine rw_get dX9_most_75 fl_RX9_29 (sh_x w) (bw_kl (by decide)) rfl ?_
      refine rw_iload_n dX9_most_78 rfl rfl ?_
      obtain ⟨q15, hq15, h⟩ := bw_bd h
      refine rw_callV1 dX9_most_79 ln_RX9_326 mv_X8_pass (sh_years w) (bw_kl (by decide)) (ct_X8_pass hq15) (Nat.le_of_ble_eq_true rfl) (Nat.le_of_ble_eq_true rfl) (bw_kkv ?_)
      refine rw_inc dX9_most_82 rfl (by decide) ?_
      refine rw_goto (tgt := 69) dX9_most_85 (by decide) ?_
      exact rw_sub (rw_lc rfl (rw_lc rfl (rw_lc rfl (rw_lc rfl rw_lz)))) (ih (v3 + 1) q15 h)
set_option maxRecDepth 20000 in
set_option maxHeartbeats 1000000 in
theorem ct_X9_most {w : WE} {M : Mem} {v1 : Int32} {v2 : Int32} {out : Int32 × Mem} (h : f_X9_most M v1 v2 = some out) : Ct w 7 yX9_most cX9_most 4 (some .int) [.ref (bw_ad w 0), .int v1, .int v2] M (bw_pi (out.1) out.2) := by
  refine Ct.of (own := RX9) rfl (by decide) (by intro v hv; simp only [List.mem_cons, List.not_mem_nil, or_false] at hv; rcases hv with rfl | rfl | rfl <;> first | rfl | exact bw_cat_rf _) (Nat.le_of_ble_eq_true rfl) ?_
  unfold f_X9_most at h
  show RW w 7 0 0 0 0 cX9_most RX9 4 (some .int) (bw_Z w (bw_pi (out.1) out.2)) 0 [(0, .ref (bw_ad w 0)), (1, .int v1), (2, .int v2)] [] M
  refine rw_iload_n dX9_most_0 rfl rfl ?_
  refine rw_iconst (v := 0) dX9_most_1 (by decide) ?_
  refine rw_bipush (v := 60) dX9_most_2 (by decide) ?_
  refine rw_callS3 dX9_most_4 ln_RX9_79 ms_X9_isWithin (ct_X9_isWithin rfl) (Nat.le_of_ble_eq_true rfl) (Nat.le_of_ble_eq_true rfl) (bw_kkz (fun z1 => ?_))
  refine rw_if_eq (tgt := 19) dX9_most_7 (by decide) (fun c2 => ?_) (fun c2 => ?_)
  · have h := bw_it c2 h
    refine rw_ldc dX9_most_19 cn_RX9_83 ?_
    have h := Option.some.inj h
    subst h
    exact rw_iret dX9_most_21 ⟨rfl, rfl⟩
  · have h := bw_if c2 h
    refine rw_iload_n dX9_most_10 rfl rfl ?_
    refine rw_iconst (v := 0) dX9_most_11 (by decide) ?_
    refine rw_iconst (v := 1) dX9_most_12 (by decide) ?_
    refine rw_callS3 dX9_most_13 ln_RX9_79 ms_X9_isWithin (ct_X9_isWithin rfl) (Nat.le_of_ble_eq_true rfl) (Nat.le_of_ble_eq_true rfl) (bw_kkz (fun z3 => ?_))
    refine rw_if_ne (tgt := 22) dX9_most_16 (by decide) (fun c4 => ?_) (fun c4 => ?_)
    · have h := bw_if c4 h
      refine rw_aload_n dX9_most_22 rfl rfl ?_
      refine rw_get dX9_most_23 fl_RX9_22 (sh_x w) (bw_kl (by decide)) rfl ?_
      refine rw_aload_n dX9_most_26 rfl rfl ?_
      refine rw_get dX9_most_27 fl_RX9_10 (sh_x w) (bw_kl (by decide)) rfl ?_
      obtain ⟨q5, hq5, h⟩ := bw_bd h
      refine rw_callV1 dX9_most_30 ln_RX9_109 mv_X2_load (sh_plan w) (bw_kl (by decide)) (ct_X2_load (by decide) hq5) (Nat.le_of_ble_eq_true rfl) (Nat.le_of_ble_eq_true rfl) (bw_kkr ?_)
      obtain ⟨q6, hq6, h⟩ := bw_bd h
      refine rw_callV0 dX9_most_33 ln_RX9_113 mv_X2_settle (sh_plan w) (bw_kl (by decide)) (ct_X2_settle hq6) (Nat.le_of_ble_eq_true rfl) (Nat.le_of_ble_eq_true rfl) (bw_kkz (fun z7 => ?_))
      refine rw_if_eq (tgt := 49) dX9_most_36 (by decide) (fun c8 => ?_) (fun c8 => ?_)
      · have h := bw_it c8 h
        refine rw_ldc dX9_most_49 cn_RX9_121 ?_
        have h := Option.some.inj h
        subst h
        exact rw_iret dX9_most_51 ⟨rfl, rfl⟩
      · have h := bw_if c8 h
        refine rw_aload_n dX9_most_39 rfl rfl ?_
        refine rw_get dX9_most_40 fl_RX9_22 (sh_x w) (bw_kl (by decide)) rfl ?_
        refine rw_get dX9_most_43 fl_RX9_209 (sh_plan w) (bw_kl (by decide)) rfl ?_
        refine rw_if_ne (tgt := 52) dX9_most_46 (by decide) (fun c9 => ?_) (fun c9 => ?_)
        · have h := bw_if c9 h
          refine rw_aload_n dX9_most_52 rfl rfl ?_
          refine rw_get dX9_most_53 fl_RX9_29 (sh_x w) (bw_kl (by decide)) rfl ?_
          refine rw_aload_n dX9_most_56 rfl rfl ?_
          refine rw_get dX9_most_57 fl_RX9_10 (sh_x w) (bw_kl (by decide)) rfl ?_
          refine rw_aload_n dX9_most_60 rfl rfl ?_
          refine rw_get dX9_most_61 fl_RX9_22 (sh_x w) (bw_kl (by decide)) rfl ?_
          obtain ⟨q10, hq10, h⟩ := bw_bd h
          refine rw_callV2 dX9_most_64 ln_RX9_322 mv_X8_begin (sh_years w) (bw_kl (by decide)) (ct_X8_begin (by decide) hq10) (Nat.le_of_ble_eq_true rfl) (Nat.le_of_ble_eq_true rfl) (bw_kkv ?_)
          refine rw_iconst (v := 1) dX9_most_67 (by decide) ?_
          refine rw_istore_n dX9_most_68 rfl (by decide) ?_
          exact rw_sub (rw_lc rfl (rw_lc rfl (rw_lc rfl (rw_lc rfl rw_lz)))) (th_X9_most_L69 bw_fu (1 : Int32) q10 h)
        · have h := bw_it c9 h
          refine rw_ldc dX9_most_49 cn_RX9_121 ?_
          have h := Option.some.inj h
          subst h
          exact rw_iret dX9_most_51 ⟨rfl, rfl⟩
    · have h := bw_it c4 h
      refine rw_ldc dX9_most_19 cn_RX9_83 ?_
      have h := Option.some.inj h
      subst h
      exact rw_iret dX9_most_21 ⟨rfl, rfl⟩
set_option maxRecDepth 20000 in
set_option maxHeartbeats 1000000 in
theorem th_X9_wall_L31 {w : WE} {M : Mem} {v1 : Int32} {v2 : Int32} {out : Int32} : ∀ (n : Nat) (v3 : Int32) (v4 : Int32) (v5 : Int32), f_X9_wall_L31 M v1 v2 n v3 v4 v5 = some out → RW w 1 0 0 0 0 cX9_wall RX9 6 (some .int) (bw_Z w (bw_pi (out) M)) 31 [(0, .ref (bw_ad w 0)), (1, .int v1), (2, .int v2), (3, .int v3), (4, .int v4), (5, .int v5)] [] M := by
  intro n
  induction n with
  | zero => intro v3 v4 v5 h; cases h
  | succ n ih =>
    intro v3 v4 v5 h
    rw [f_X9_wall_L31] at h
    refine rw_iload dX9_wall_31 rfl ?_
    refine rw_aload_n dX9_wall_33 rfl rfl ?_
    refine rw_get dX9_wall_34 fl_RX9_10 (sh_x w) (bw_kl (by decide)) rfl ?_
    refine rw_get dX9_wall_37 fl_RX9_84 (sh_now w) (bw_kl (by decide)) rfl ?_
    refine rw_icmp_ge (tgt := 128) dX9_wall_40 (by decide) (fun c5 => ?_) (fun c5 => ?_)
    · have h := bw_it c5 h
      refine rw_aload_n dX9_wall_128 rfl rfl ?_
      refine rw_get dX9_wall_129 fl_RX9_10 (sh_x w) (bw_kl (by decide)) rfl ?_
      refine rw_get dX9_wall_132 fl_RX9_84 (sh_now w) (bw_kl (by decide)) rfl ?_
      have h := Option.some.inj h
      subst h
      exact rw_iret dX9_wall_135 ⟨rfl, rfl⟩
    · have h := bw_if c5 h
      refine rw_aload_n dX9_wall_43 rfl rfl ?_
      refine rw_get dX9_wall_44 fl_RX9_10 (sh_x w) (bw_kl (by decide)) rfl ?_
      refine rw_get dX9_wall_47 fl_RX9_99 (sh_now w) (bw_kl (by decide)) rfl ?_
      refine rw_iload dX9_wall_50 rfl ?_
      obtain ⟨g6, h⟩ := bw_gd h
      refine rw_iald dX9_wall_52 (sh_now_thick w) (bw_kl (by decide)) (bw_in g6) ?_
      refine rw_iload dX9_wall_53 rfl ?_
      have key : RW w 1 0 0 0 0 cX9_wall RX9 6 (some .int) (bw_Z w (bw_pi (out) M)) 70 [(0, .ref (bw_ad w 0)), (1, .int v1), (2, .int v2), (3, .int (if (M 27 v5.toNatClampNeg) ≤ v4 then v3 else v3 + 1)), (4, .int (if (M 27 v5.toNatClampNeg) ≤ v4 then v4 else M 25 5)), (5, .int v5)] [] M := by
        refine rw_iload_n dX9_wall_70 rfl rfl ?_
        refine rw_iload_n dX9_wall_71 rfl rfl ?_
        refine rw_icmp_gt (tgt := 104) dX9_wall_72 (by decide) (fun c8 => ?_) (fun c8 => ?_)
        · have h := bw_it c8 h
          refine rw_iload dX9_wall_104 rfl ?_
          have h := Option.some.inj h
          subst h
          exact rw_iret dX9_wall_106 ⟨rfl, rfl⟩
        · have h := bw_if c8 h
          refine rw_aload_n dX9_wall_75 rfl rfl ?_
          refine rw_get dX9_wall_76 fl_RX9_10 (sh_x w) (bw_kl (by decide)) rfl ?_
          refine rw_get dX9_wall_79 fl_RX9_96 (sh_now w) (bw_kl (by decide)) rfl ?_
          refine rw_iload dX9_wall_82 rfl ?_
          refine rw_iald dX9_wall_84 (sh_now_height w) (bw_kl (by decide)) (bw_in g6) ?_
          refine rw_iload_n dX9_wall_85 rfl rfl ?_
          refine rw_icmp_gt (tgt := 104) dX9_wall_86 (by decide) (fun c9 => ?_) (fun c9 => ?_)
          · have h := bw_it c9 h
            refine rw_iload dX9_wall_104 rfl ?_
            have h := Option.some.inj h
            subst h
            exact rw_iret dX9_wall_106 ⟨rfl, rfl⟩
          · have h := bw_if c9 h
            refine rw_aload_n dX9_wall_89 rfl rfl ?_
            refine rw_get dX9_wall_90 fl_RX9_10 (sh_x w) (bw_kl (by decide)) rfl ?_
            refine rw_get dX9_wall_93 fl_RX9_99 (sh_now w) (bw_kl (by decide)) rfl ?_
            refine rw_iload dX9_wall_96 rfl ?_
            refine rw_iald dX9_wall_98 (sh_now_thick w) (bw_kl (by decide)) (bw_in g6) ?_
            refine rw_iload dX9_wall_99 rfl ?_
            refine rw_icmp_le (tgt := 107) dX9_wall_101 (by decide) (fun c10 => ?_) (fun c10 => ?_)
            · have h := bw_it c10 h
              refine rw_iload dX9_wall_107 rfl ?_
              refine rw_aload_n dX9_wall_109 rfl rfl ?_
              refine rw_get dX9_wall_110 fl_RX9_10 (sh_x w) (bw_kl (by decide)) rfl ?_
              refine rw_get dX9_wall_113 fl_RX9_99 (sh_now w) (bw_kl (by decide)) rfl ?_
              refine rw_iload dX9_wall_116 rfl ?_
              refine rw_iald dX9_wall_118 (sh_now_thick w) (bw_kl (by decide)) (bw_in g6) ?_
              refine rw_isub dX9_wall_119 ?_
              obtain ⟨x11, hx11, h⟩ := bw_mlE h
              refine rw_ti hx11 ?_
              refine rw_istore dX9_wall_120 (by decide) ?_
              refine rw_inc dX9_wall_122 rfl (by decide) ?_
              refine rw_goto (tgt := 31) dX9_wall_125 (by decide) ?_
              exact rw_sub (rw_lc rfl (rw_lc rfl (rw_lc rfl (rw_lc rfl (rw_lc rfl (rw_lc rfl rw_lz)))))) (ih (if (M 27 v5.toNatClampNeg) ≤ v4 then v3 else v3 + 1) x11 (v5 + 1) h)
            · have h := bw_if c10 h
              refine rw_iload dX9_wall_104 rfl ?_
              have h := Option.some.inj h
              subst h
              exact rw_iret dX9_wall_106 ⟨rfl, rfl⟩
      refine rw_icmp_le (tgt := 70) dX9_wall_55 (by decide) (fun c7 => ?_) (fun c7 => ?_)
      · simp only [if_pos c7] at key
        exact rw_sub (rw_lc rfl (rw_lc rfl (rw_lc rfl (rw_lc rfl (rw_lc rfl (rw_lc rfl rw_lz)))))) key
      · refine rw_inc dX9_wall_58 rfl (by decide) ?_
        refine rw_aload_n dX9_wall_61 rfl rfl ?_
        refine rw_get dX9_wall_62 fl_RX9_10 (sh_x w) (bw_kl (by decide)) rfl ?_
        refine rw_get dX9_wall_65 fl_RX9_135 (sh_now w) (bw_kl (by decide)) rfl ?_
        refine rw_istore dX9_wall_68 (by decide) ?_
        simp only [if_neg c7] at key
        exact rw_sub (rw_lc rfl (rw_lc rfl (rw_lc rfl (rw_lc rfl (rw_lc rfl (rw_lc rfl rw_lz)))))) key
set_option maxRecDepth 20000 in
set_option maxHeartbeats 1000000 in
theorem ct_X9_wall {w : WE} {M : Mem} {v1 : Int32} {v2 : Int32} {out : Int32} (h : f_X9_wall M v1 v2 = some out) : Ct w 1 yX9_wall cX9_wall 6 (some .int) [.ref (bw_ad w 0), .int v1, .int v2] M (bw_pi (out) M) := by
  refine Ct.of (own := RX9) rfl (by decide) (by intro v hv; simp only [List.mem_cons, List.not_mem_nil, or_false] at hv; rcases hv with rfl | rfl | rfl <;> first | rfl | exact bw_cat_rf _) (Nat.le_of_ble_eq_true rfl) ?_
  unfold f_X9_wall at h
  show RW w 1 0 0 0 0 cX9_wall RX9 6 (some .int) (bw_Z w (bw_pi (out) M)) 0 [(0, .ref (bw_ad w 0)), (1, .int v1), (2, .int v2)] [] M
  refine rw_iload_n dX9_wall_0 rfl rfl ?_
  refine rw_iconst (v := 0) dX9_wall_1 (by decide) ?_
  refine rw_bipush (v := 24) dX9_wall_2 (by decide) ?_
  refine rw_callS3 dX9_wall_4 ln_RX9_79 ms_X9_isWithin (ct_X9_isWithin rfl) (Nat.le_of_ble_eq_true rfl) (Nat.le_of_ble_eq_true rfl) (bw_kkz (fun z1 => ?_))
  refine rw_if_eq (tgt := 20) dX9_wall_7 (by decide) (fun c2 => ?_) (fun c2 => ?_)
  · have h := bw_it c2 h
    refine rw_ldc dX9_wall_20 cn_RX9_83 ?_
    have h := Option.some.inj h
    subst h
    exact rw_iret dX9_wall_22 ⟨rfl, rfl⟩
  · have h := bw_if c2 h
    refine rw_iload_n dX9_wall_10 rfl rfl ?_
    refine rw_iconst (v := 1) dX9_wall_11 (by decide) ?_
    refine rw_bipush (v := 99) dX9_wall_12 (by decide) ?_
    refine rw_callS3 dX9_wall_14 ln_RX9_79 ms_X9_isWithin (ct_X9_isWithin rfl) (Nat.le_of_ble_eq_true rfl) (Nat.le_of_ble_eq_true rfl) (bw_kkz (fun z3 => ?_))
    refine rw_if_ne (tgt := 23) dX9_wall_17 (by decide) (fun c4 => ?_) (fun c4 => ?_)
    · have h := bw_if c4 h
      refine rw_iconst (v := 0) dX9_wall_23 (by decide) ?_
      refine rw_istore_n dX9_wall_24 rfl (by decide) ?_
      refine rw_iconst (v := 0) dX9_wall_25 (by decide) ?_
      refine rw_istore dX9_wall_26 (by decide) ?_
      refine rw_iconst (v := 0) dX9_wall_28 (by decide) ?_
      refine rw_istore dX9_wall_29 (by decide) ?_
      exact rw_sub (rw_lc rfl (rw_lc rfl (rw_lc rfl (rw_lc rfl (rw_lc rfl (rw_lc rfl rw_lz)))))) (th_X9_wall_L31 bw_fu (0 : Int32) (0 : Int32) (0 : Int32) h)
    · have h := bw_it c4 h
      refine rw_ldc dX9_wall_20 cn_RX9_83 ?_
      have h := Option.some.inj h
      subst h
      exact rw_iret dX9_wall_22 ⟨rfl, rfl⟩
set_option maxRecDepth 20000 in
set_option maxHeartbeats 1000000 in
theorem ct_X9_inch {w : WE} {M : Mem} {v1 : Int32} {out : Int32 × Mem} (h : f_X9_inch M v1 = some out) : Ct w 6 yX9_inch cX9_inch 4 (some .int) [.ref (bw_ad w 0), .int v1] M (bw_pi (out.1) out.2) := by
  refine Ct.of (own := RX9) rfl (by decide) (by intro v hv; simp only [List.mem_cons, List.not_mem_nil, or_false] at hv; rcases hv with rfl | rfl <;> first | rfl | exact bw_cat_rf _) (Nat.le_of_ble_eq_true rfl) ?_
  unfold f_X9_inch at h
  show RW w 6 0 0 0 0 cX9_inch RX9 4 (some .int) (bw_Z w (bw_pi (out.1) out.2)) 0 [(0, .ref (bw_ad w 0)), (1, .int v1)] [] M
  refine rw_iload_n dX9_inch_0 rfl rfl ?_
  refine rw_iconst (v := 1) dX9_inch_1 (by decide) ?_
  refine rw_aload_n dX9_inch_2 rfl rfl ?_
  refine rw_get dX9_inch_3 fl_RX9_10 (sh_x w) (bw_kl (by decide)) rfl ?_
  refine rw_get dX9_inch_6 fl_RX9_135 (sh_now w) (bw_kl (by decide)) rfl ?_
  refine rw_isub dX9_inch_9 ?_
  refine rw_sipush (v := 999) dX9_inch_10 (by decide) ?_
  refine rw_aload_n dX9_inch_13 rfl rfl ?_
  refine rw_get dX9_inch_14 fl_RX9_10 (sh_x w) (bw_kl (by decide)) rfl ?_
  refine rw_get dX9_inch_17 fl_RX9_135 (sh_now w) (bw_kl (by decide)) rfl ?_
  refine rw_isub dX9_inch_20 ?_
  refine rw_callS3 dX9_inch_21 ln_RX9_79 ms_X9_isWithin (ct_X9_isWithin rfl) (Nat.le_of_ble_eq_true rfl) (Nat.le_of_ble_eq_true rfl) (bw_kkz (fun z1 => ?_))
  refine rw_if_ne (tgt := 30) dX9_inch_24 (by decide) (fun c2 => ?_) (fun c2 => ?_)
  · have h := bw_if c2 h
    refine rw_aload_n dX9_inch_30 rfl rfl ?_
    refine rw_get dX9_inch_31 fl_RX9_22 (sh_x w) (bw_kl (by decide)) rfl ?_
    refine rw_aload_n dX9_inch_34 rfl rfl ?_
    refine rw_get dX9_inch_35 fl_RX9_10 (sh_x w) (bw_kl (by decide)) rfl ?_
    obtain ⟨q3, hq3, h⟩ := bw_bd h
    refine rw_callV1 dX9_inch_38 ln_RX9_109 mv_X2_load (sh_plan w) (bw_kl (by decide)) (ct_X2_load (by decide) hq3) (Nat.le_of_ble_eq_true rfl) (Nat.le_of_ble_eq_true rfl) (bw_kkr ?_)
    refine rw_pop dX9_inch_41 rfl ?_
    refine rw_aload_n dX9_inch_42 rfl rfl ?_
    refine rw_get dX9_inch_43 fl_RX9_22 (sh_x w) (bw_kl (by decide)) rfl ?_
    obtain ⟨q4, hq4, h⟩ := bw_bd h
    refine rw_callV0 dX9_inch_46 ln_RX9_253 mv_X2_leastPrices (sh_plan w) (bw_kl (by decide)) (ct_X2_leastPrices hq4) (Nat.le_of_ble_eq_true rfl) (Nat.le_of_ble_eq_true rfl) (bw_kki ?_)
    refine rw_istore_n dX9_inch_49 rfl (by decide) ?_
    refine rw_aload_n dX9_inch_50 rfl rfl ?_
    refine rw_get dX9_inch_51 fl_RX9_22 (sh_x w) (bw_kl (by decide)) rfl ?_
    refine rw_dup dX9_inch_54 rfl ?_
    refine rw_get dX9_inch_55 fl_RX9_335 (sh_plan w) (bw_kl (by decide)) rfl ?_
    refine rw_iload_n dX9_inch_58 rfl rfl ?_
    refine rw_iadd dX9_inch_59 ?_
    refine rw_puti dX9_inch_60 fl_RX9_335 fp_2_4 (sh_plan w) (bw_kl (by decide)) (by decide) (fun _ => rfl) (fun _ => Nat.le_of_ble_eq_true rfl) ?_
    obtain ⟨M5, hM5, h⟩ := bw_mlE h
    refine rw_m hM5.symm ?_
    refine rw_aload_n dX9_inch_63 rfl rfl ?_
    refine rw_get dX9_inch_64 fl_RX9_22 (sh_x w) (bw_kl (by decide)) rfl ?_
    obtain ⟨q6, hq6, h⟩ := bw_bd h
    refine rw_callV0 dX9_inch_67 ln_RX9_253 mv_X2_leastPrices (sh_plan w) (bw_kl (by decide)) (ct_X2_leastPrices hq6) (Nat.le_of_ble_eq_true rfl) (Nat.le_of_ble_eq_true rfl) (bw_kki ?_)
    refine rw_istore_n dX9_inch_70 rfl (by decide) ?_
    refine rw_iload_n dX9_inch_71 rfl rfl ?_
    have key : RW w 6 0 0 0 0 cX9_inch RX9 4 (some .int) (bw_Z w (bw_pi (out.1) out.2)) 87 [] [.int (if q4.1 < 0 then (-1000000005 : Int32) else (if 0 ≤ q6.1 then q6.1 - q4.1 else (-1000000005 : Int32)))] q6.2 := by
      have h := Option.some.inj h
      subst h
      exact rw_iret dX9_inch_87 ⟨rfl, rfl⟩
    refine rw_if_lt (tgt := 79) dX9_inch_72 (by decide) (fun c7 => ?_) (fun c7 => ?_)
    · refine rw_ldc dX9_inch_79 cn_RX9_121 ?_
      refine rw_goto (tgt := 87) dX9_inch_81 (by decide) ?_
      simp only [if_pos c7] at key
      exact rw_sub rw_lz key
    · refine rw_iload_n dX9_inch_75 rfl rfl ?_
      refine rw_if_ge (tgt := 84) dX9_inch_76 (by decide) (fun c8 => ?_) (fun c8 => ?_)
      · refine rw_iload_n dX9_inch_84 rfl rfl ?_
        refine rw_iload_n dX9_inch_85 rfl rfl ?_
        refine rw_isub dX9_inch_86 ?_
        simp only [if_neg c7, if_pos c8] at key
        exact rw_sub rw_lz key
      · refine rw_ldc dX9_inch_79 cn_RX9_121 ?_
        refine rw_goto (tgt := 87) dX9_inch_81 (by decide) ?_
        simp only [if_neg c7, if_neg c8] at key
        exact rw_sub rw_lz key
  · have h := bw_it c2 h
    refine rw_ldc dX9_inch_27 cn_RX9_83 ?_
    have h := Option.some.inj h
    subst h
    exact rw_iret dX9_inch_29 ⟨rfl, rfl⟩
set_option maxRecDepth 20000 in
set_option maxHeartbeats 1000000 in
theorem th_X9_moved_L4 {w : WE} {M : Mem} {v1 : Int32} {out : Int32} : ∀ (n : Nat) (v2 : Int32) (v3 : Int32), f_X9_moved_L4 M v1 n v2 v3 = some out → RW w 1 0 0 0 0 cX9_moved RX9 5 (some .int) (bw_Z w (bw_pi (out) M)) 4 [(0, .ref (bw_ad w 0)), (1, .int v1), (2, .int v2), (3, .int v3)] [] M := by
  intro n
  induction n with
  | zero => intro v2 v3 h; cases h
  | succ n ih =>
    intro v2 v3 h
    rw [f_X9_moved_L4] at h
    refine rw_iload_n dX9_moved_4 rfl rfl ?_
    refine rw_aload_n dX9_moved_5 rfl rfl ?_
    refine rw_get dX9_moved_6 fl_RX9_10 (sh_x w) (bw_kl (by decide)) rfl ?_
    refine rw_get dX9_moved_9 fl_RX9_84 (sh_now w) (bw_kl (by decide)) rfl ?_
    refine rw_icmp_ge (tgt := 56) dX9_moved_12 (by decide) (fun c1 => ?_) (fun c1 => ?_)
    · have h := bw_it c1 h
      refine rw_iload_n dX9_moved_56 rfl rfl ?_
      have h := Option.some.inj h
      subst h
      exact rw_iret dX9_moved_57 ⟨rfl, rfl⟩
    · have h := bw_if c1 h
      refine rw_iload_n dX9_moved_15 rfl rfl ?_
      refine rw_iload_n dX9_moved_16 rfl rfl ?_
      have key : RW w 1 0 0 0 0 cX9_moved RX9 5 (some .int) (bw_Z w (bw_pi (out) M)) 27 [(0, .ref (bw_ad w 0)), (1, .int v1), (2, .int v2), (3, .int v3)] [.int (if v1 ≤ v3 then v3 + (1 : Int32) else v3)] M := by
        obtain ⟨x3, hx3, h⟩ := bw_mlE h
        refine rw_ti hx3 ?_
        refine rw_istore dX9_moved_27 (by decide) ?_
        refine rw_aload_n dX9_moved_29 rfl rfl ?_
        refine rw_get dX9_moved_30 fl_RX9_22 (sh_x w) (bw_kl (by decide)) rfl ?_
        refine rw_iload dX9_moved_33 rfl ?_
        obtain ⟨q4, hq4, h⟩ := bw_bd h
        refine rw_callV1 dX9_moved_35 ln_RX9_117 mv_X2_lineOf (sh_plan w) (bw_kl (by decide)) (ct_X2_lineOf hq4) (Nat.le_of_ble_eq_true rfl) (Nat.le_of_ble_eq_true rfl) (bw_kki ?_)
        refine rw_aload_n dX9_moved_38 rfl rfl ?_
        refine rw_get dX9_moved_39 fl_RX9_70 (sh_x w) (bw_kl (by decide)) rfl ?_
        refine rw_iload_n dX9_moved_42 rfl rfl ?_
        obtain ⟨g5, h⟩ := bw_gd h
        refine rw_iald dX9_moved_43 (sh_lineBefore w) (bw_kl (by decide)) (bw_in g5) ?_
        have key : RW w 1 0 0 0 0 cX9_moved RX9 5 (some .int) (bw_Z w (bw_pi (out) M)) 50 [(0, .ref (bw_ad w 0)), (1, .int v1), (2, .int (if q4 = (M 24 v3.toNatClampNeg) then v2 else v2 + 1)), (3, .int v3)] [] M := by
          refine rw_inc dX9_moved_50 rfl (by decide) ?_
          refine rw_goto (tgt := 4) dX9_moved_53 (by decide) ?_
          exact rw_sub (rw_lc rfl (rw_lc rfl (rw_lc rfl (rw_lc rfl rw_lz)))) (ih (if q4 = (M 24 v3.toNatClampNeg) then v2 else v2 + 1) (v3 + 1) h)
        refine rw_icmp_eq (tgt := 50) dX9_moved_44 (by decide) (fun c6 => ?_) (fun c6 => ?_)
        · simp only [if_pos c6] at key
          exact rw_sub (rw_lc rfl (rw_lc rfl (rw_lc rfl (rw_lc rfl rw_lz)))) key
        · refine rw_inc dX9_moved_47 rfl (by decide) ?_
          simp only [if_neg c6] at key
          exact rw_sub (rw_lc rfl (rw_lc rfl (rw_lc rfl (rw_lc rfl rw_lz)))) key
      refine rw_icmp_ge (tgt := 24) dX9_moved_17 (by decide) (fun c2 => ?_) (fun c2 => ?_)
      · refine rw_iload_n dX9_moved_24 rfl rfl ?_
        refine rw_iconst (v := 1) dX9_moved_25 (by decide) ?_
        refine rw_iadd dX9_moved_26 ?_
        simp only [if_pos c2] at key
        exact rw_sub (rw_lc rfl (rw_lc rfl (rw_lc rfl (rw_lc rfl rw_lz)))) key
      · refine rw_iload_n dX9_moved_20 rfl rfl ?_
        refine rw_goto (tgt := 27) dX9_moved_21 (by decide) ?_
        simp only [if_neg c2] at key
        exact rw_sub (rw_lc rfl (rw_lc rfl (rw_lc rfl (rw_lc rfl rw_lz)))) key
set_option maxRecDepth 20000 in
set_option maxHeartbeats 1000000 in
theorem ct_X9_moved {w : WE} {M : Mem} {v1 : Int32} {out : Int32} (h : f_X9_moved M v1 = some out) : Ct w 1 yX9_moved cX9_moved 5 (some .int) [.ref (bw_ad w 0), .int v1] M (bw_pi (out) M) := by
  refine Ct.of (own := RX9) rfl (by decide) (by intro v hv; simp only [List.mem_cons, List.not_mem_nil, or_false] at hv; rcases hv with rfl | rfl <;> first | rfl | exact bw_cat_rf _) (Nat.le_of_ble_eq_true rfl) ?_
  unfold f_X9_moved at h
  show RW w 1 0 0 0 0 cX9_moved RX9 5 (some .int) (bw_Z w (bw_pi (out) M)) 0 [(0, .ref (bw_ad w 0)), (1, .int v1)] [] M
  refine rw_iconst (v := 0) dX9_moved_0 (by decide) ?_
  refine rw_istore_n dX9_moved_1 rfl (by decide) ?_
  refine rw_iconst (v := 0) dX9_moved_2 (by decide) ?_
  refine rw_istore_n dX9_moved_3 rfl (by decide) ?_
  exact rw_sub (rw_lc rfl (rw_lc rfl (rw_lc rfl (rw_lc rfl rw_lz)))) (th_X9_moved_L4 bw_fu (0 : Int32) (0 : Int32) h)
set_option maxRecDepth 20000 in
set_option maxHeartbeats 1000000 in
theorem th_X9_shift_L62 {w : WE} {v1 : Int32} {v2 : Int32} {out : Int32 × Mem} : ∀ (n : Nat) (v3 : Int32) (M : Mem), f_X9_shift_L62 v1 v2 n v3 M = some out → RW w 7 0 0 0 0 cX9_shift RX9 4 (some .int) (bw_Z w (bw_pi (out.1) out.2)) 62 [(0, .ref (bw_ad w 0)), (1, .int v1), (2, .int v2), (3, .int v3)] [] M := by
  intro n
  induction n with
  | zero => intro v3 M h; cases h
  | succ n ih =>
    intro v3 M h
    rw [f_X9_shift_L62] at h
    refine rw_iload_n dX9_shift_62 rfl rfl ?_
    refine rw_aload_n dX9_shift_63 rfl rfl ?_
    refine rw_get dX9_shift_64 fl_RX9_10 (sh_x w) (bw_kl (by decide)) rfl ?_
    refine rw_get dX9_shift_67 fl_RX9_84 (sh_now w) (bw_kl (by decide)) rfl ?_
    refine rw_icmp_ge (tgt := 93) dX9_shift_70 (by decide) (fun c10 => ?_) (fun c10 => ?_)
    · have h := bw_it c10 h
      refine rw_aload_n dX9_shift_93 rfl rfl ?_
      refine rw_get dX9_shift_94 fl_RX9_22 (sh_x w) (bw_kl (by decide)) rfl ?_
      refine rw_iload_n dX9_shift_97 rfl rfl ?_
      refine rw_iload_n dX9_shift_98 rfl rfl ?_
      refine rw_bipush (v := 100) dX9_shift_99 (by decide) ?_
      refine rw_idiv dX9_shift_101 (by decide) ?_
      refine rw_iload_n dX9_shift_102 rfl rfl ?_
      refine rw_bipush (v := 100) dX9_shift_103 (by decide) ?_
      refine rw_irem dX9_shift_105 (by decide) ?_
      obtain ⟨q11, hq11, h⟩ := bw_bd h
      refine rw_callV3 dX9_shift_106 ln_RX9_336 mv_X2_insert (sh_plan w) (bw_kl (by decide)) (ct_X2_insert hq11) (Nat.le_of_ble_eq_true rfl) (Nat.le_of_ble_eq_true rfl) (bw_kkv ?_)
      refine rw_aload_n dX9_shift_109 rfl rfl ?_
      refine rw_get dX9_shift_110 fl_RX9_22 (sh_x w) (bw_kl (by decide)) rfl ?_
      obtain ⟨q12, hq12, h⟩ := bw_bd h
      refine rw_callV0 dX9_shift_113 ln_RX9_113 mv_X2_settle (sh_plan w) (bw_kl (by decide)) (ct_X2_settle hq12) (Nat.le_of_ble_eq_true rfl) (Nat.le_of_ble_eq_true rfl) (bw_kkz (fun z13 => ?_))
      refine rw_if_eq (tgt := 127) dX9_shift_116 (by decide) (fun c14 => ?_) (fun c14 => ?_)
      · have h := bw_it c14 h
        refine rw_ldc dX9_shift_127 cn_RX9_121 ?_
        have h := Option.some.inj h
        subst h
        exact rw_iret dX9_shift_129 ⟨rfl, rfl⟩
      · have h := bw_if c14 h
        refine rw_aload_n dX9_shift_119 rfl rfl ?_
        refine rw_iload_n dX9_shift_120 rfl rfl ?_
        obtain ⟨q15, hq15, h⟩ := bw_bd h
        refine rw_callV1 dX9_shift_121 ln_RX9_340 mv_X9_moved (sh_x w) (bw_kl (by decide)) (ct_X9_moved hq15) (Nat.le_of_ble_eq_true rfl) (Nat.le_of_ble_eq_true rfl) (bw_kki ?_)
        refine rw_goto (tgt := 129) dX9_shift_124 (by decide) ?_
        have h := Option.some.inj h
        subst h
        exact rw_iret dX9_shift_129 ⟨rfl, rfl⟩
    · have h := bw_if c10 h
      refine rw_aload_n dX9_shift_73 rfl rfl ?_
      refine rw_get dX9_shift_74 fl_RX9_70 (sh_x w) (bw_kl (by decide)) rfl ?_
      refine rw_iload_n dX9_shift_77 rfl rfl ?_
      refine rw_aload_n dX9_shift_78 rfl rfl ?_
      refine rw_get dX9_shift_79 fl_RX9_22 (sh_x w) (bw_kl (by decide)) rfl ?_
      refine rw_iload_n dX9_shift_82 rfl rfl ?_
      obtain ⟨q16, hq16, h⟩ := bw_bd h
      refine rw_callV1 dX9_shift_83 ln_RX9_117 mv_X2_lineOf (sh_plan w) (bw_kl (by decide)) (ct_X2_lineOf hq16) (Nat.le_of_ble_eq_true rfl) (Nat.le_of_ble_eq_true rfl) (bw_kki ?_)
      obtain ⟨g17, h⟩ := bw_gd h
      refine rw_iast dX9_shift_86 (sh_lineBefore w) (bw_kl (by decide)) (bw_in g17) ?_
      obtain ⟨M18, hM18, h⟩ := bw_mlE h
      refine rw_m hM18.symm ?_
      refine rw_inc dX9_shift_87 rfl (by decide) ?_
      refine rw_goto (tgt := 62) dX9_shift_90 (by decide) ?_
      exact rw_sub (rw_lc rfl (rw_lc rfl (rw_lc rfl (rw_lc rfl rw_lz)))) (ih (v3 + 1) M18 h)
set_option maxRecDepth 20000 in
set_option maxHeartbeats 1000000 in
theorem ct_X9_shift {w : WE} {M : Mem} {v1 : Int32} {v2 : Int32} {out : Int32 × Mem} (h : f_X9_shift M v1 v2 = some out) : Ct w 7 yX9_shift cX9_shift 4 (some .int) [.ref (bw_ad w 0), .int v1, .int v2] M (bw_pi (out.1) out.2) := by
  refine Ct.of (own := RX9) rfl (by decide) (by intro v hv; simp only [List.mem_cons, List.not_mem_nil, or_false] at hv; rcases hv with rfl | rfl | rfl <;> first | rfl | exact bw_cat_rf _) (Nat.le_of_ble_eq_true rfl) ?_
  unfold f_X9_shift at h
  show RW w 7 0 0 0 0 cX9_shift RX9 4 (some .int) (bw_Z w (bw_pi (out.1) out.2)) 0 [(0, .ref (bw_ad w 0)), (1, .int v1), (2, .int v2)] [] M
  refine rw_iload_n dX9_shift_0 rfl rfl ?_
  refine rw_iconst (v := 0) dX9_shift_1 (by decide) ?_
  refine rw_aload_n dX9_shift_2 rfl rfl ?_
  refine rw_get dX9_shift_3 fl_RX9_10 (sh_x w) (bw_kl (by decide)) rfl ?_
  refine rw_get dX9_shift_6 fl_RX9_84 (sh_now w) (bw_kl (by decide)) rfl ?_
  refine rw_callS3 dX9_shift_9 ln_RX9_79 ms_X9_isWithin (ct_X9_isWithin rfl) (Nat.le_of_ble_eq_true rfl) (Nat.le_of_ble_eq_true rfl) (bw_kkz (fun z1 => ?_))
  refine rw_if_eq (tgt := 22) dX9_shift_12 (by decide) (fun c2 => ?_) (fun c2 => ?_)
  · have h := bw_it c2 h
    refine rw_ldc dX9_shift_22 cn_RX9_83 ?_
    have h := Option.some.inj h
    subst h
    exact rw_iret dX9_shift_24 ⟨rfl, rfl⟩
  · have h := bw_if c2 h
    refine rw_iload_n dX9_shift_15 rfl rfl ?_
    refine rw_callS1 dX9_shift_16 ln_RX9_75 ms_X9_isSize (ct_X9_isSize rfl) (Nat.le_of_ble_eq_true rfl) (Nat.le_of_ble_eq_true rfl) (bw_kkz (fun z3 => ?_))
    refine rw_if_ne (tgt := 25) dX9_shift_19 (by decide) (fun c4 => ?_) (fun c4 => ?_)
    · have h := bw_if c4 h
      refine rw_aload_n dX9_shift_25 rfl rfl ?_
      refine rw_get dX9_shift_26 fl_RX9_10 (sh_x w) (bw_kl (by decide)) rfl ?_
      refine rw_get dX9_shift_29 fl_RX9_84 (sh_now w) (bw_kl (by decide)) rfl ?_
      refine rw_bipush (v := 24) dX9_shift_32 (by decide) ?_
      refine rw_icmp_lt (tgt := 40) dX9_shift_34 (by decide) (fun c5 => ?_) (fun c5 => ?_)
      · have h := bw_it c5 h
        refine rw_aload_n dX9_shift_40 rfl rfl ?_
        refine rw_get dX9_shift_41 fl_RX9_22 (sh_x w) (bw_kl (by decide)) rfl ?_
        refine rw_aload_n dX9_shift_44 rfl rfl ?_
        refine rw_get dX9_shift_45 fl_RX9_10 (sh_x w) (bw_kl (by decide)) rfl ?_
        obtain ⟨q6, hq6, h⟩ := bw_bd h
        refine rw_callV1 dX9_shift_48 ln_RX9_109 mv_X2_load (sh_plan w) (bw_kl (by decide)) (ct_X2_load (by decide) hq6) (Nat.le_of_ble_eq_true rfl) (Nat.le_of_ble_eq_true rfl) (bw_kkr ?_)
        obtain ⟨q7, hq7, h⟩ := bw_bd h
        refine rw_callV0 dX9_shift_51 ln_RX9_113 mv_X2_settle (sh_plan w) (bw_kl (by decide)) (ct_X2_settle hq7) (Nat.le_of_ble_eq_true rfl) (Nat.le_of_ble_eq_true rfl) (bw_kkz (fun z8 => ?_))
        refine rw_if_ne (tgt := 60) dX9_shift_54 (by decide) (fun c9 => ?_) (fun c9 => ?_)
        · have h := bw_if c9 h
          refine rw_iconst (v := 0) dX9_shift_60 (by decide) ?_
          refine rw_istore_n dX9_shift_61 rfl (by decide) ?_
          exact rw_sub (rw_lc rfl (rw_lc rfl (rw_lc rfl (rw_lc rfl rw_lz)))) (th_X9_shift_L62 bw_fu (0 : Int32) q7.2 h)
        · have h := bw_it c9 h
          refine rw_ldc dX9_shift_57 cn_RX9_121 ?_
          have h := Option.some.inj h
          subst h
          exact rw_iret dX9_shift_59 ⟨rfl, rfl⟩
      · have h := bw_if c5 h
        refine rw_ldc dX9_shift_37 cn_RX9_88 ?_
        have h := Option.some.inj h
        subst h
        exact rw_iret dX9_shift_39 ⟨rfl, rfl⟩
    · have h := bw_it c4 h
      refine rw_ldc dX9_shift_22 cn_RX9_83 ?_
      have h := Option.some.inj h
      subst h
      exact rw_iret dX9_shift_24 ⟨rfl, rfl⟩
