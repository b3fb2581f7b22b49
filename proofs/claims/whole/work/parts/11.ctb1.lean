set_option maxRecDepth 20000 in
set_option maxHeartbeats 1000000 in
theorem th_X10_ofBooks_L10 {w : WE} {M : Mem} {v1 : Int32} {v2 : Int32} {out : Int32} : ∀ (n : Nat) (v3 : Int32) (v4 : Int32), f_X10_ofBooks_L10 M v1 v2 n v3 v4 = some out → RW w 1 0 0 0 0 cX10_ofBooks RX10 6 (some .int) (bw_Z w (bw_pi (out) M)) 10 [(0, .ref (bw_ad w 93)), (1, .int v1), (2, .int v2), (3, .int v3), (4, .int v4)] [] M := by
  intro n
  induction n with
  | zero => intro v3 v4 h; cases h
  | succ n ih =>
    intro v3 v4 h
    rw [f_X10_ofBooks_L10] at h
    refine rw_iload dX10_ofBooks_10 rfl ?_
    refine rw_aload_n dX10_ofBooks_12 rfl rfl ?_
    refine rw_iload_n dX10_ofBooks_13 rfl rfl ?_
    refine rw_iconst (v := 2) dX10_ofBooks_14 (by decide) ?_
    obtain ⟨q2, hq2, h⟩ := bw_bd h
    refine rw_callV2 dX10_ofBooks_15 ln_RX10_151 mv_X10_board4 (sh_m w) (bw_kl (by decide)) (ct_X10_board4 hq2) (Nat.le_of_ble_eq_true rfl) (Nat.le_of_ble_eq_true rfl) (bw_kki ?_)
    refine rw_icmp_gt (tgt := 66) dX10_ofBooks_18 (by decide) (fun c3 => ?_) (fun c3 => ?_)
    · have h := bw_it c3 h
      refine rw_iload_n dX10_ofBooks_66 rfl rfl ?_
      have h := Option.some.inj h
      subst h
      exact rw_iret dX10_ofBooks_67 ⟨rfl, rfl⟩
    · have h := bw_if c3 h
      refine rw_aload_n dX10_ofBooks_21 rfl rfl ?_
      refine rw_iload dX10_ofBooks_22 rfl ?_
      refine rw_iconst (v := 0) dX10_ofBooks_24 (by decide) ?_
      obtain ⟨q4, hq4, h⟩ := bw_bd h
      refine rw_callV2 dX10_ofBooks_25 ln_RX10_134 mv_X10_book4 (sh_m w) (bw_kl (by decide)) (ct_X10_book4 hq4) (Nat.le_of_ble_eq_true rfl) (Nat.le_of_ble_eq_true rfl) (bw_kki ?_)
      refine rw_istore dX10_ofBooks_28 (by decide) ?_
      refine rw_iload_n dX10_ofBooks_30 rfl rfl ?_
      refine rw_iconst (v := 1) dX10_ofBooks_31 (by decide) ?_
      refine rw_icmp_ne (tgt := 47) dX10_ofBooks_32 (by decide) (fun c5 => ?_) (fun c5 => ?_)
      · have h := bw_if c5 h
        refine rw_iload dX10_ofBooks_47 rfl ?_
        refine rw_iload_n dX10_ofBooks_49 rfl rfl ?_
        have key : RW w 1 0 0 0 0 cX10_ofBooks RX10 6 (some .int) (bw_Z w (bw_pi (out) M)) 59 [(0, .ref (bw_ad w 93)), (1, .int v1), (2, .int v2), (4, .int v4)] [.int (if q4 ≤ v3 then v3 else q4)] M := by
          refine rw_istore_n dX10_ofBooks_59 rfl (by decide) ?_
          refine rw_inc dX10_ofBooks_60 rfl (by decide) ?_
          refine rw_goto (tgt := 10) dX10_ofBooks_63 (by decide) ?_
          exact rw_sub (rw_lc rfl (rw_lc rfl (rw_lc rfl (rw_lc rfl (rw_lc rfl rw_lz))))) (ih (if q4 ≤ v3 then v3 else q4) (v4 + 1) h)
        refine rw_icmp_le (tgt := 58) dX10_ofBooks_50 (by decide) (fun c6 => ?_) (fun c6 => ?_)
        · refine rw_iload_n dX10_ofBooks_58 rfl rfl ?_
          simp only [if_pos c6] at key
          exact rw_sub (rw_lc rfl (rw_lc rfl (rw_lc rfl (rw_lc rfl rw_lz)))) key
        · refine rw_iload dX10_ofBooks_53 rfl ?_
          refine rw_goto (tgt := 59) dX10_ofBooks_55 (by decide) ?_
          simp only [if_neg c6] at key
          exact rw_sub (rw_lc rfl (rw_lc rfl (rw_lc rfl (rw_lc rfl rw_lz)))) key
      · have h := bw_it c5 h
        refine rw_iload_n dX10_ofBooks_35 rfl rfl ?_
        refine rw_aload_n dX10_ofBooks_36 rfl rfl ?_
        refine rw_iload dX10_ofBooks_37 rfl ?_
        refine rw_iconst (v := 1) dX10_ofBooks_39 (by decide) ?_
        obtain ⟨q7, hq7, h⟩ := bw_bd h
        refine rw_callV2 dX10_ofBooks_40 ln_RX10_134 mv_X10_book4 (sh_m w) (bw_kl (by decide)) (ct_X10_book4 hq7) (Nat.le_of_ble_eq_true rfl) (Nat.le_of_ble_eq_true rfl) (bw_kki ?_)
        refine rw_iadd dX10_ofBooks_43 ?_
        refine rw_goto (tgt := 59) dX10_ofBooks_44 (by decide) ?_
        refine rw_istore_n dX10_ofBooks_59 rfl (by decide) ?_
        refine rw_inc dX10_ofBooks_60 rfl (by decide) ?_
        refine rw_goto (tgt := 10) dX10_ofBooks_63 (by decide) ?_
        exact rw_sub (rw_lc rfl (rw_lc rfl (rw_lc rfl (rw_lc rfl (rw_lc rfl rw_lz))))) (ih (v3 + q7) (v4 + 1) h)
set_option maxRecDepth 20000 in
set_option maxHeartbeats 1000000 in
theorem ct_X10_ofBooks {w : WE} {M : Mem} {v1 : Int32} {v2 : Int32} {out : Int32} (h : f_X10_ofBooks M v1 v2 = some out) : Ct w 1 yX10_ofBooks cX10_ofBooks 6 (some .int) [.ref (bw_ad w 93), .int v1, .int v2] M (bw_pi (out) M) := by
  refine Ct.of (own := RX10) rfl (by decide) (by intro v hv; simp only [List.mem_cons, List.not_mem_nil, or_false] at hv; rcases hv with rfl | rfl | rfl <;> first | rfl | exact bw_cat_rf _) (Nat.le_of_ble_eq_true rfl) ?_
  unfold f_X10_ofBooks at h
  show RW w 1 0 0 0 0 cX10_ofBooks RX10 6 (some .int) (bw_Z w (bw_pi (out) M)) 0 [(0, .ref (bw_ad w 93)), (1, .int v1), (2, .int v2)] [] M
  refine rw_iconst (v := 0) dX10_ofBooks_0 (by decide) ?_
  refine rw_istore_n dX10_ofBooks_1 rfl (by decide) ?_
  refine rw_aload_n dX10_ofBooks_2 rfl rfl ?_
  refine rw_iload_n dX10_ofBooks_3 rfl rfl ?_
  refine rw_iconst (v := 1) dX10_ofBooks_4 (by decide) ?_
  obtain ⟨q1, hq1, h⟩ := bw_bd h
  refine rw_callV2 dX10_ofBooks_5 ln_RX10_151 mv_X10_board4 (sh_m w) (bw_kl (by decide)) (ct_X10_board4 hq1) (Nat.le_of_ble_eq_true rfl) (Nat.le_of_ble_eq_true rfl) (bw_kki ?_)
  refine rw_istore dX10_ofBooks_8 (by decide) ?_
  exact rw_sub (rw_lc rfl (rw_lc rfl (rw_lc rfl (rw_lc rfl (rw_lc rfl rw_lz))))) (th_X10_ofBooks_L10 bw_fu (0 : Int32) q1 h)
set_option maxRecDepth 20000 in
set_option maxHeartbeats 1000000 in
theorem ct_X10_wants {w : WE} {M : Mem} {v1 : Int32} {out : Int32} (h : f_X10_wants M v1 = some out) : Ct w 2 yX10_wants cX10_wants 2 (some .int) [.ref (bw_ad w 93), .int v1] M (bw_pi (out) M) := by
  refine Ct.of (own := RX10) rfl (by decide) (by intro v hv; simp only [List.mem_cons, List.not_mem_nil, or_false] at hv; rcases hv with rfl | rfl <;> first | rfl | exact bw_cat_rf _) (Nat.le_of_ble_eq_true rfl) ?_
  unfold f_X10_wants at h
  show RW w 2 0 0 0 0 cX10_wants RX10 2 (some .int) (bw_Z w (bw_pi (out) M)) 0 [(0, .ref (bw_ad w 93)), (1, .int v1)] [] M
  refine rw_aload_n dX10_wants_0 rfl rfl ?_
  refine rw_iload_n dX10_wants_1 rfl rfl ?_
  refine rw_iconst (v := 0) dX10_wants_2 (by decide) ?_
  obtain ⟨q1, hq1, h⟩ := bw_bd h
  refine rw_callV2 dX10_wants_3 ln_RX10_151 mv_X10_board4 (sh_m w) (bw_kl (by decide)) (ct_X10_board4 hq1) (Nat.le_of_ble_eq_true rfl) (Nat.le_of_ble_eq_true rfl) (bw_kki ?_)
  refine rw_case (1 : Int32) (fun c2 => ?_) (fun c2 => ?_)
  · have h := bw_it c2 h
    refine rw_tabK (tgt := 40) dX10_wants_6 c2 (by decide) (by decide) rfl (by decide) ?_
    refine rw_aload_n dX10_wants_40 rfl rfl ?_
    refine rw_iload_n dX10_wants_41 rfl rfl ?_
    refine rw_iconst (v := 0) dX10_wants_42 (by decide) ?_
    obtain ⟨q3, hq3, h⟩ := bw_bd h
    refine rw_callV2 dX10_wants_43 ln_RX10_154 mv_X10_ofBooks (sh_m w) (bw_kl (by decide)) (ct_X10_ofBooks hq3) (Nat.le_of_ble_eq_true rfl) (Nat.le_of_ble_eq_true rfl) (bw_kki ?_)
    refine rw_iconst (v := 1) dX10_wants_46 (by decide) ?_
    refine rw_iadd dX10_wants_47 ?_
    have h := Option.some.inj h
    subst h
    exact rw_iret dX10_wants_48 ⟨rfl, rfl⟩
  · have h := bw_if c2 h
    refine rw_case (2 : Int32) (fun c4 => ?_) (fun c4 => ?_)
    · have h := bw_it c4 h
      refine rw_tabK (tgt := 49) dX10_wants_6 c4 (by decide) (by decide) rfl (by decide) ?_
      refine rw_aload_n dX10_wants_49 rfl rfl ?_
      refine rw_iload_n dX10_wants_50 rfl rfl ?_
      refine rw_iconst (v := 0) dX10_wants_51 (by decide) ?_
      obtain ⟨q5, hq5, h⟩ := bw_bd h
      refine rw_callV2 dX10_wants_52 ln_RX10_154 mv_X10_ofBooks (sh_m w) (bw_kl (by decide)) (ct_X10_ofBooks hq5) (Nat.le_of_ble_eq_true rfl) (Nat.le_of_ble_eq_true rfl) (bw_kki ?_)
      refine rw_iconst (v := 2) dX10_wants_55 (by decide) ?_
      refine rw_iadd dX10_wants_56 ?_
      have h := Option.some.inj h
      subst h
      exact rw_iret dX10_wants_57 ⟨rfl, rfl⟩
    · have h := bw_if c4 h
      refine rw_case (3 : Int32) (fun c6 => ?_) (fun c6 => ?_)
      · have h := bw_it c6 h
        refine rw_tabK (tgt := 40) dX10_wants_6 c6 (by decide) (by decide) rfl (by decide) ?_
        refine rw_aload_n dX10_wants_40 rfl rfl ?_
        refine rw_iload_n dX10_wants_41 rfl rfl ?_
        refine rw_iconst (v := 0) dX10_wants_42 (by decide) ?_
        obtain ⟨q7, hq7, h⟩ := bw_bd h
        refine rw_callV2 dX10_wants_43 ln_RX10_154 mv_X10_ofBooks (sh_m w) (bw_kl (by decide)) (ct_X10_ofBooks hq7) (Nat.le_of_ble_eq_true rfl) (Nat.le_of_ble_eq_true rfl) (bw_kki ?_)
        refine rw_iconst (v := 1) dX10_wants_46 (by decide) ?_
        refine rw_iadd dX10_wants_47 ?_
        have h := Option.some.inj h
        subst h
        exact rw_iret dX10_wants_48 ⟨rfl, rfl⟩
      · have h := bw_if c6 h
        refine rw_case (4 : Int32) (fun c8 => ?_) (fun c8 => ?_)
        · have h := bw_it c8 h
          refine rw_tabK (tgt := 58) dX10_wants_6 c8 (by decide) (by decide) rfl (by decide) ?_
          refine rw_aload_n dX10_wants_58 rfl rfl ?_
          refine rw_iload_n dX10_wants_59 rfl rfl ?_
          refine rw_iconst (v := 1) dX10_wants_60 (by decide) ?_
          obtain ⟨q9, hq9, h⟩ := bw_bd h
          refine rw_callV2 dX10_wants_61 ln_RX10_154 mv_X10_ofBooks (sh_m w) (bw_kl (by decide)) (ct_X10_ofBooks hq9) (Nat.le_of_ble_eq_true rfl) (Nat.le_of_ble_eq_true rfl) (bw_kki ?_)
          have h := Option.some.inj h
          subst h
          exact rw_iret dX10_wants_64 ⟨rfl, rfl⟩
        · have h := bw_if c8 h
          refine rw_case (5 : Int32) (fun c10 => ?_) (fun c10 => ?_)
          · have h := bw_it c10 h
            refine rw_tabK (tgt := 65) dX10_wants_6 c10 (by decide) (by decide) rfl (by decide) ?_
            refine rw_aload_n dX10_wants_65 rfl rfl ?_
            refine rw_iload_n dX10_wants_66 rfl rfl ?_
            refine rw_iconst (v := 3) dX10_wants_67 (by decide) ?_
            obtain ⟨q11, hq11, h⟩ := bw_bd h
            refine rw_callV2 dX10_wants_68 ln_RX10_151 mv_X10_board4 (sh_m w) (bw_kl (by decide)) (ct_X10_board4 hq11) (Nat.le_of_ble_eq_true rfl) (Nat.le_of_ble_eq_true rfl) (bw_kki ?_)
            have h := Option.some.inj h
            subst h
            exact rw_iret dX10_wants_71 ⟨rfl, rfl⟩
          · have h := bw_if c10 h
            refine rw_tabD (tgt := 72) dX10_wants_6 (by have := lv_neT (a := 1) c2 (by decide); have := lv_neT (a := 2) c4 (by decide); have := lv_neT (a := 3) c6 (by decide); have := lv_neT (a := 4) c8 (by decide); have := lv_neT (a := 5) c10 (by decide); omega) (by decide) ?_
            refine rw_aload_n dX10_wants_72 rfl rfl ?_
            refine rw_iload_n dX10_wants_73 rfl rfl ?_
            refine rw_iconst (v := 0) dX10_wants_74 (by decide) ?_
            obtain ⟨q12, hq12, h⟩ := bw_bd h
            refine rw_callV2 dX10_wants_75 ln_RX10_154 mv_X10_ofBooks (sh_m w) (bw_kl (by decide)) (ct_X10_ofBooks hq12) (Nat.le_of_ble_eq_true rfl) (Nat.le_of_ble_eq_true rfl) (bw_kki ?_)
            have h := Option.some.inj h
            subst h
            exact rw_iret dX10_wants_78 ⟨rfl, rfl⟩
set_option maxRecDepth 20000 in
set_option maxHeartbeats 1000000 in
theorem ct_X10_takes {w : WE} {M : Mem} {v1 : Int32} {out : Int32} (h : f_X10_takes M v1 = some out) : Ct w 2 yX10_takes cX10_takes 3 (some .int) [.ref (bw_ad w 93), .int v1] M (bw_pi (out) M) := by
  refine Ct.of (own := RX10) rfl (by decide) (by intro v hv; simp only [List.mem_cons, List.not_mem_nil, or_false] at hv; rcases hv with rfl | rfl <;> first | rfl | exact bw_cat_rf _) (Nat.le_of_ble_eq_true rfl) ?_
  unfold f_X10_takes at h
  show RW w 2 0 0 0 0 cX10_takes RX10 3 (some .int) (bw_Z w (bw_pi (out) M)) 0 [(0, .ref (bw_ad w 93)), (1, .int v1)] [] M
  refine rw_aload_n dX10_takes_0 rfl rfl ?_
  refine rw_iload_n dX10_takes_1 rfl rfl ?_
  refine rw_iconst (v := 0) dX10_takes_2 (by decide) ?_
  obtain ⟨q1, hq1, h⟩ := bw_bd h
  refine rw_callV2 dX10_takes_3 ln_RX10_151 mv_X10_board4 (sh_m w) (bw_kl (by decide)) (ct_X10_board4 hq1) (Nat.le_of_ble_eq_true rfl) (Nat.le_of_ble_eq_true rfl) (bw_kki ?_)
  refine rw_istore_n dX10_takes_6 rfl (by decide) ?_
  refine rw_iload_n dX10_takes_7 rfl rfl ?_
  refine rw_iconst (v := 4) dX10_takes_8 (by decide) ?_
  refine rw_icmp_ne (tgt := 21) dX10_takes_9 (by decide) (fun c2 => ?_) (fun c2 => ?_)
  · have h := bw_if c2 h
    refine rw_iload_n dX10_takes_21 rfl rfl ?_
    refine rw_iconst (v := 3) dX10_takes_22 (by decide) ?_
    refine rw_icmp_ne (tgt := 39) dX10_takes_23 (by decide) (fun c3 => ?_) (fun c3 => ?_)
    · have h := bw_if c3 h
      refine rw_aload_n dX10_takes_39 rfl rfl ?_
      refine rw_iload_n dX10_takes_40 rfl rfl ?_
      refine rw_iconst (v := 1) dX10_takes_41 (by decide) ?_
      obtain ⟨q4, hq4, h⟩ := bw_bd h
      refine rw_callV2 dX10_takes_42 ln_RX10_154 mv_X10_ofBooks (sh_m w) (bw_kl (by decide)) (ct_X10_ofBooks hq4) (Nat.le_of_ble_eq_true rfl) (Nat.le_of_ble_eq_true rfl) (bw_kki ?_)
      have h := Option.some.inj h
      subst h
      exact rw_iret dX10_takes_45 ⟨rfl, rfl⟩
    · have h := bw_it c3 h
      refine rw_aload_n dX10_takes_26 rfl rfl ?_
      refine rw_iload_n dX10_takes_27 rfl rfl ?_
      refine rw_iconst (v := 1) dX10_takes_28 (by decide) ?_
      obtain ⟨q5, hq5, h⟩ := bw_bd h
      refine rw_callV2 dX10_takes_29 ln_RX10_154 mv_X10_ofBooks (sh_m w) (bw_kl (by decide)) (ct_X10_ofBooks hq5) (Nat.le_of_ble_eq_true rfl) (Nat.le_of_ble_eq_true rfl) (bw_kki ?_)
      refine rw_iconst (v := 1) dX10_takes_32 (by decide) ?_
      refine rw_iadd dX10_takes_33 ?_
      refine rw_iconst (v := 2) dX10_takes_34 (by decide) ?_
      refine rw_idiv dX10_takes_35 (by decide) ?_
      refine rw_goto (tgt := 45) dX10_takes_36 (by decide) ?_
      have h := Option.some.inj h
      subst h
      exact rw_iret dX10_takes_45 ⟨rfl, rfl⟩
  · have h := bw_it c2 h
    refine rw_aload_n dX10_takes_12 rfl rfl ?_
    refine rw_iload_n dX10_takes_13 rfl rfl ?_
    refine rw_iconst (v := 0) dX10_takes_14 (by decide) ?_
    obtain ⟨q6, hq6, h⟩ := bw_bd h
    refine rw_callV2 dX10_takes_15 ln_RX10_154 mv_X10_ofBooks (sh_m w) (bw_kl (by decide)) (ct_X10_ofBooks hq6) (Nat.le_of_ble_eq_true rfl) (Nat.le_of_ble_eq_true rfl) (bw_kki ?_)
    refine rw_goto (tgt := 45) dX10_takes_18 (by decide) ?_
    have h := Option.some.inj h
    subst h
    exact rw_iret dX10_takes_45 ⟨rfl, rfl⟩
set_option maxRecDepth 20000 in
set_option maxHeartbeats 1000000 in
theorem ct_X10_worthBy {w : WE} {M : Mem} {v0 : Int32} {v1 : Int32} {v2 : Int32} {out : Int32} (h : f_X10_worthBy v0 v1 v2 = out) : Ct w 0 yX10_worthBy cX10_worthBy 3 (some .int) [.int v0, .int v1, .int v2] M (bw_pi (out) M) := by
  refine Ct.of (own := RX10) rfl (by decide) (by intro v hv; simp only [List.mem_cons, List.not_mem_nil, or_false] at hv; rcases hv with rfl | rfl | rfl <;> first | rfl | exact bw_cat_rf _) (Nat.le_of_ble_eq_true rfl) ?_
  unfold f_X10_worthBy at h
  show RW w 0 0 0 0 0 cX10_worthBy RX10 3 (some .int) (bw_Z w (bw_pi (out) M)) 0 [(0, .int v0), (1, .int v1), (2, .int v2)] [] M
  refine rw_iload_n dX10_worthBy_0 rfl rfl ?_
  refine rw_case (1 : Int32) (fun c1 => ?_) (fun c1 => ?_)
  · have h := bw_it c1 h
    refine rw_tabK (tgt := 36) dX10_worthBy_1 c1 (by decide) (by decide) rfl (by decide) ?_
    refine rw_iload_n dX10_worthBy_36 rfl rfl ?_
    refine rw_iload_n dX10_worthBy_37 rfl rfl ?_
    refine rw_iadd dX10_worthBy_38 ?_
    subst h
    exact rw_iret dX10_worthBy_39 ⟨rfl, rfl⟩
  · have h := bw_if c1 h
    refine rw_case (2 : Int32) (fun c2 => ?_) (fun c2 => ?_)
    · have h := bw_it c2 h
      refine rw_tabK (tgt := 54) dX10_worthBy_1 c2 (by decide) (by decide) rfl (by decide) ?_
      refine rw_iload_n dX10_worthBy_54 rfl rfl ?_
      subst h
      exact rw_iret dX10_worthBy_55 ⟨rfl, rfl⟩
    · have h := bw_if c2 h
      refine rw_case (3 : Int32) (fun c3 => ?_) (fun c3 => ?_)
      · have h := bw_it c3 h
        refine rw_tabK (tgt := 40) dX10_worthBy_1 c3 (by decide) (by decide) rfl (by decide) ?_
        refine rw_iload_n dX10_worthBy_40 rfl rfl ?_
        refine rw_iload_n dX10_worthBy_41 rfl rfl ?_
        refine rw_iadd dX10_worthBy_42 ?_
        refine rw_iconst (v := 3) dX10_worthBy_43 (by decide) ?_
        refine rw_iadd dX10_worthBy_44 ?_
        subst h
        exact rw_iret dX10_worthBy_45 ⟨rfl, rfl⟩
      · have h := bw_if c3 h
        refine rw_case (4 : Int32) (fun c4 => ?_) (fun c4 => ?_)
        · have h := bw_it c4 h
          refine rw_tabK (tgt := 46) dX10_worthBy_1 c4 (by decide) (by decide) rfl (by decide) ?_
          refine rw_iconst (v := 2) dX10_worthBy_46 (by decide) ?_
          refine rw_iload_n dX10_worthBy_47 rfl rfl ?_
          refine rw_imul dX10_worthBy_48 ?_
          subst h
          exact rw_iret dX10_worthBy_49 ⟨rfl, rfl⟩
        · have h := bw_if c4 h
          refine rw_case (5 : Int32) (fun c5 => ?_) (fun c5 => ?_)
          · have h := bw_it c5 h
            refine rw_tabK (tgt := 50) dX10_worthBy_1 c5 (by decide) (by decide) rfl (by decide) ?_
            refine rw_iload_n dX10_worthBy_50 rfl rfl ?_
            refine rw_iconst (v := 1) dX10_worthBy_51 (by decide) ?_
            refine rw_isub dX10_worthBy_52 ?_
            subst h
            exact rw_iret dX10_worthBy_53 ⟨rfl, rfl⟩
          · have h := bw_if c5 h
            refine rw_tabD (tgt := 54) dX10_worthBy_1 (by have := lv_neT (a := 1) c1 (by decide); have := lv_neT (a := 2) c2 (by decide); have := lv_neT (a := 3) c3 (by decide); have := lv_neT (a := 4) c4 (by decide); have := lv_neT (a := 5) c5 (by decide); omega) (by decide) ?_
            refine rw_iload_n dX10_worthBy_54 rfl rfl ?_
            subst h
            exact rw_iret dX10_worthBy_55 ⟨rfl, rfl⟩
set_option maxRecDepth 20000 in
set_option maxHeartbeats 1000000 in
theorem ct_X10_booksOn {w : WE} {M : Mem} {v1 : Int32} {out : Int32} (h : f_X10_booksOn M v1 = some out) : Ct w 1 yX10_booksOn cX10_booksOn 2 (some .int) [.ref (bw_ad w 93), .int v1] M (bw_pi (out) M) := by
  refine Ct.of (own := RX10) rfl (by decide) (by intro v hv; simp only [List.mem_cons, List.not_mem_nil, or_false] at hv; rcases hv with rfl | rfl <;> first | rfl | exact bw_cat_rf _) (Nat.le_of_ble_eq_true rfl) ?_
  unfold f_X10_booksOn at h
  show RW w 1 0 0 0 0 cX10_booksOn RX10 2 (some .int) (bw_Z w (bw_pi (out) M)) 0 [(0, .ref (bw_ad w 93)), (1, .int v1)] [] M
  refine rw_aload_n dX10_booksOn_0 rfl rfl ?_
  refine rw_iload_n dX10_booksOn_1 rfl rfl ?_
  refine rw_iconst (v := 2) dX10_booksOn_2 (by decide) ?_
  obtain ⟨q1, hq1, h⟩ := bw_bd h
  refine rw_callV2 dX10_booksOn_3 ln_RX10_151 mv_X10_board4 (sh_m w) (bw_kl (by decide)) (ct_X10_board4 hq1) (Nat.le_of_ble_eq_true rfl) (Nat.le_of_ble_eq_true rfl) (bw_kki ?_)
  refine rw_aload_n dX10_booksOn_6 rfl rfl ?_
  refine rw_iload_n dX10_booksOn_7 rfl rfl ?_
  refine rw_iconst (v := 1) dX10_booksOn_8 (by decide) ?_
  obtain ⟨q2, hq2, h⟩ := bw_bd h
  refine rw_callV2 dX10_booksOn_9 ln_RX10_151 mv_X10_board4 (sh_m w) (bw_kl (by decide)) (ct_X10_board4 hq2) (Nat.le_of_ble_eq_true rfl) (Nat.le_of_ble_eq_true rfl) (bw_kki ?_)
  refine rw_isub dX10_booksOn_12 ?_
  refine rw_iconst (v := 1) dX10_booksOn_13 (by decide) ?_
  refine rw_iadd dX10_booksOn_14 ?_
  have h := Option.some.inj h
  subst h
  exact rw_iret dX10_booksOn_15 ⟨rfl, rfl⟩
set_option maxRecDepth 20000 in
set_option maxHeartbeats 1000000 in
theorem th_X10_isGood_J57 {w : WE} {M : Mem} {v1 : Int32} {s0 : Int32} {out : Int32} (h : f_X10_isGood_J57 M v1 s0 = some out) : RW w 3 0 0 0 0 cX10_isGood RX10 5 (some .boolean) (bw_Z w (bw_pz (out) M)) 57 [(0, .ref (bw_ad w 93)), (1, .int v1)] [.int s0] M := by
  unfold f_X10_isGood_J57 at h
  refine rw_istore dX10_isGood_57 (by decide) ?_
  refine rw_iload dX10_isGood_59 rfl ?_
  refine rw_if_ne (tgt := 82) dX10_isGood_61 (by decide) (fun c5 => ?_) (fun c5 => ?_)
  · have h := bw_if c5 h
    refine rw_iconst (v := 0) dX10_isGood_82 (by decide) ?_
    have h := Option.some.inj h
    subst h
    exact rw_zret dX10_isGood_83 bw_n0 ⟨rfl, rfl, bw_n0⟩
  · have h := bw_it c5 h
    refine rw_aload_n dX10_isGood_64 rfl rfl ?_
    refine rw_iload_n dX10_isGood_65 rfl rfl ?_
    obtain ⟨q6, hq6, h⟩ := bw_bd h
    refine rw_callV1 dX10_isGood_66 ln_RX10_157 mv_X10_takes (sh_m w) (bw_kl (by decide)) (ct_X10_takes hq6) (Nat.le_of_ble_eq_true rfl) (Nat.le_of_ble_eq_true rfl) (bw_kki ?_)
    refine rw_aload_n dX10_isGood_69 rfl rfl ?_
    refine rw_get dX10_isGood_70 fl_RX10_9 (sh_m w) (bw_kl (by decide)) rfl ?_
    refine rw_iconst (v := 1) dX10_isGood_73 (by decide) ?_
    refine rw_iald dX10_isGood_74 (sh_m_now w) (bw_kl (by decide)) (bw_in (show bw_ib (1 : Int32) 1530 = true by decide)) ?_
    have key : RW w 3 0 0 0 0 cX10_isGood RX10 5 (some .boolean) (bw_Z w (bw_pz (out) M)) 83 [] [.int (if (M 94 (1 : Int32).toNatClampNeg) < q6 then (0 : Int32) else (1 : Int32))] M := by
      have h := Option.some.inj h
      subst h
      exact rw_zret dX10_isGood_83 (by (repeat' split) <;> first | exact bw_n0 | exact bw_n1) ⟨rfl, rfl, (by (repeat' split) <;> first | exact bw_n0 | exact bw_n1)⟩
    refine rw_icmp_gt (tgt := 82) dX10_isGood_75 (by decide) (fun c7 => ?_) (fun c7 => ?_)
    · refine rw_iconst (v := 0) dX10_isGood_82 (by decide) ?_
      simp only [if_pos c7] at key
      exact rw_sub rw_lz key
    · refine rw_iconst (v := 1) dX10_isGood_78 (by decide) ?_
      refine rw_goto (tgt := 83) dX10_isGood_79 (by decide) ?_
      simp only [if_neg c7] at key
      exact rw_sub rw_lz key
set_option maxRecDepth 20000 in
set_option maxHeartbeats 1000000 in
theorem th_X10_isGood_J56 {w : WE} {M : Mem} {v1 : Int32} {out : Int32} (h : f_X10_isGood_J56 M v1 = some out) : RW w 3 0 0 0 0 cX10_isGood RX10 5 (some .boolean) (bw_Z w (bw_pz (out) M)) 56 [(0, .ref (bw_ad w 93)), (1, .int v1)] [] M := by
  unfold f_X10_isGood_J56 at h
  refine rw_iconst (v := 0) dX10_isGood_56 (by decide) ?_
  exact rw_sub (rw_lc rfl (rw_lc rfl rw_lz)) (th_X10_isGood_J57 h)
set_option maxRecDepth 20000 in
set_option maxHeartbeats 1000000 in
theorem th_X10_isGood_J30 {w : WE} {M : Mem} {v1 : Int32} {v3 : Int32} {out : Int32} (h : f_X10_isGood_J30 M v1 v3 = some out) : RW w 3 0 0 0 0 cX10_isGood RX10 5 (some .boolean) (bw_Z w (bw_pz (out) M)) 30 [(0, .ref (bw_ad w 93)), (1, .int v1), (3, .int v3)] [] M := by
  unfold f_X10_isGood_J30 at h
  refine rw_iload_n dX10_isGood_30 rfl rfl ?_
  refine rw_aload_n dX10_isGood_31 rfl rfl ?_
  refine rw_get dX10_isGood_32 fl_RX10_9 (sh_m w) (bw_kl (by decide)) rfl ?_
  refine rw_iconst (v := 4) dX10_isGood_35 (by decide) ?_
  refine rw_iald dX10_isGood_36 (sh_m_now w) (bw_kl (by decide)) (bw_in (show bw_ib (4 : Int32) 1530 = true by decide)) ?_
  refine rw_iconst (v := 1) dX10_isGood_37 (by decide) ?_
  refine rw_isub dX10_isGood_38 ?_
  refine rw_icmp_ge (tgt := 56) dX10_isGood_39 (by decide) (fun c4 => ?_) (fun c4 => ?_)
  · have h := bw_it c4 h
    exact rw_sub (rw_lc rfl (rw_lc rfl rw_lz)) (th_X10_isGood_J56 h)
  · have h := bw_if c4 h
    refine rw_aload_n dX10_isGood_42 rfl rfl ?_
    refine rw_iload_n dX10_isGood_43 rfl rfl ?_
    refine rw_iconst (v := 3) dX10_isGood_44 (by decide) ?_
    obtain ⟨q8, hq8, h⟩ := bw_bd h
    refine rw_callV2 dX10_isGood_45 ln_RX10_134 mv_X10_book4 (sh_m w) (bw_kl (by decide)) (ct_X10_book4 hq8) (Nat.le_of_ble_eq_true rfl) (Nat.le_of_ble_eq_true rfl) (bw_kki ?_)
    refine rw_iconst (v := 1) dX10_isGood_48 (by decide) ?_
    have key : RW w 3 0 0 0 0 cX10_isGood RX10 5 (some .boolean) (bw_Z w (bw_pz (out) M)) 57 [(0, .ref (bw_ad w 93)), (1, .int v1)] [.int (if q8 = (1 : Int32) then (1 : Int32) else (0 : Int32))] M := by
      exact rw_sub (rw_lc rfl (rw_lc rfl rw_lz)) (th_X10_isGood_J57 h)
    refine rw_icmp_ne (tgt := 56) dX10_isGood_49 (by decide) (fun c9 => ?_) (fun c9 => ?_)
    · refine rw_iconst (v := 0) dX10_isGood_56 (by decide) ?_
      simp only [if_neg c9] at key
      exact rw_sub (rw_lc rfl (rw_lc rfl rw_lz)) key
    · refine rw_iconst (v := 1) dX10_isGood_52 (by decide) ?_
      refine rw_goto (tgt := 57) dX10_isGood_53 (by decide) ?_
      simp only [if_pos c9] at key
      exact rw_sub (rw_lc rfl (rw_lc rfl rw_lz)) key
set_option maxRecDepth 20000 in
set_option maxHeartbeats 1000000 in
theorem th_X10_isGood_J52 {w : WE} {M : Mem} {v1 : Int32} {out : Int32} (h : f_X10_isGood_J52 M v1 = some out) : RW w 3 0 0 0 0 cX10_isGood RX10 5 (some .boolean) (bw_Z w (bw_pz (out) M)) 52 [(0, .ref (bw_ad w 93)), (1, .int v1)] [] M := by
  unfold f_X10_isGood_J52 at h
  refine rw_iconst (v := 1) dX10_isGood_52 (by decide) ?_
  refine rw_goto (tgt := 57) dX10_isGood_53 (by decide) ?_
  exact rw_sub (rw_lc rfl (rw_lc rfl rw_lz)) (th_X10_isGood_J57 h)
set_option maxRecDepth 20000 in
set_option maxHeartbeats 1000000 in
theorem ct_X10_isGood {w : WE} {M : Mem} {v1 : Int32} {out : Int32} (h : f_X10_isGood M v1 = some out) : Ct w 3 yX10_isGood cX10_isGood 5 (some .boolean) [.ref (bw_ad w 93), .int v1] M (bw_pz (out) M) := by
  refine Ct.of (own := RX10) rfl (by decide) (by intro v hv; simp only [List.mem_cons, List.not_mem_nil, or_false] at hv; rcases hv with rfl | rfl <;> first | rfl | exact bw_cat_rf _) (Nat.le_of_ble_eq_true rfl) ?_
  unfold f_X10_isGood at h
  show RW w 3 0 0 0 0 cX10_isGood RX10 5 (some .boolean) (bw_Z w (bw_pz (out) M)) 0 [(0, .ref (bw_ad w 93)), (1, .int v1)] [] M
  refine rw_aload_n dX10_isGood_0 rfl rfl ?_
  refine rw_iload_n dX10_isGood_1 rfl rfl ?_
  refine rw_iconst (v := 1) dX10_isGood_2 (by decide) ?_
  obtain ⟨q1, hq1, h⟩ := bw_bd h
  refine rw_callV2 dX10_isGood_3 ln_RX10_151 mv_X10_board4 (sh_m w) (bw_kl (by decide)) (ct_X10_board4 hq1) (Nat.le_of_ble_eq_true rfl) (Nat.le_of_ble_eq_true rfl) (bw_kki ?_)
  refine rw_istore_n dX10_isGood_6 rfl (by decide) ?_
  refine rw_aload_n dX10_isGood_7 rfl rfl ?_
  refine rw_iload_n dX10_isGood_8 rfl rfl ?_
  refine rw_iconst (v := 2) dX10_isGood_9 (by decide) ?_
  obtain ⟨q2, hq2, h⟩ := bw_bd h
  refine rw_callV2 dX10_isGood_10 ln_RX10_151 mv_X10_board4 (sh_m w) (bw_kl (by decide)) (ct_X10_board4 hq2) (Nat.le_of_ble_eq_true rfl) (Nat.le_of_ble_eq_true rfl) (bw_kki ?_)
  refine rw_istore_n dX10_isGood_13 rfl (by decide) ?_
  refine rw_iload_n dX10_isGood_14 rfl rfl ?_
  refine rw_if_le (tgt := 30) dX10_isGood_15 (by decide) (fun c3 => ?_) (fun c3 => ?_)
  · have h := bw_it c3 h
    exact rw_sub (rw_lc rfl (rw_lc rfl (rw_lc rfl rw_lz))) (th_X10_isGood_J30 h)
  · have h := bw_if c3 h
    refine rw_aload_n dX10_isGood_18 rfl rfl ?_
    refine rw_iload_n dX10_isGood_19 rfl rfl ?_
    refine rw_iconst (v := 1) dX10_isGood_20 (by decide) ?_
    refine rw_isub dX10_isGood_21 ?_
    refine rw_iconst (v := 3) dX10_isGood_22 (by decide) ?_
    obtain ⟨q10, hq10, h⟩ := bw_bd h
    refine rw_callV2 dX10_isGood_23 ln_RX10_134 mv_X10_book4 (sh_m w) (bw_kl (by decide)) (ct_X10_book4 hq10) (Nat.le_of_ble_eq_true rfl) (Nat.le_of_ble_eq_true rfl) (bw_kki ?_)
    refine rw_iconst (v := 1) dX10_isGood_26 (by decide) ?_
    refine rw_icmp_eq (tgt := 52) dX10_isGood_27 (by decide) (fun c11 => ?_) (fun c11 => ?_)
    · have h := bw_it c11 h
      exact rw_sub (rw_lc rfl (rw_lc rfl rw_lz)) (th_X10_isGood_J52 h)
    · have h := bw_if c11 h
      exact rw_sub (rw_lc rfl (rw_lc rfl (rw_lc rfl rw_lz))) (th_X10_isGood_J30 h)
set_option maxRecDepth 20000 in
set_option maxHeartbeats 1000000 in
theorem ct_X10_told {w : WE} {M : Mem} {v1 : Int32} {v2 : Int32} {out : Int32} (h : f_X10_told M v1 v2 = some out) : Ct w 4 yX10_told cX10_told 3 (some .int) [.ref (bw_ad w 93), .int v1, .int v2] M (bw_pi (out) M) := by
  refine Ct.of (own := RX10) rfl (by decide) (by intro v hv; simp only [List.mem_cons, List.not_mem_nil, or_false] at hv; rcases hv with rfl | rfl | rfl <;> first | rfl | exact bw_cat_rf _) (Nat.le_of_ble_eq_true rfl) ?_
  unfold f_X10_told at h
  show RW w 4 0 0 0 0 cX10_told RX10 3 (some .int) (bw_Z w (bw_pi (out) M)) 0 [(0, .ref (bw_ad w 93)), (1, .int v1), (2, .int v2)] [] M
  refine rw_aload_n dX10_told_0 rfl rfl ?_
  refine rw_iload_n dX10_told_1 rfl rfl ?_
  refine rw_callV1 dX10_told_2 ln_RX10_161 mv_X10_isBoard (sh_m w) (bw_kl (by decide)) (ct_X10_isBoard rfl) (Nat.le_of_ble_eq_true rfl) (Nat.le_of_ble_eq_true rfl) (bw_kkz (fun z1 => ?_))
  refine rw_if_eq (tgt := 18) dX10_told_5 (by decide) (fun c2 => ?_) (fun c2 => ?_)
  · have h := bw_it c2 h
    refine rw_ldc dX10_told_18 cn_RX10_125 ?_
    have h := Option.some.inj h
    subst h
    exact rw_iret dX10_told_20 ⟨rfl, rfl⟩
  · have h := bw_if c2 h
    refine rw_iload_n dX10_told_8 rfl rfl ?_
    refine rw_iconst (v := 0) dX10_told_9 (by decide) ?_
    refine rw_bipush (v := 7) dX10_told_10 (by decide) ?_
    refine rw_callS3 dX10_told_12 ln_RX10_117 ms_X10_in (ct_X10_in rfl) (Nat.le_of_ble_eq_true rfl) (Nat.le_of_ble_eq_true rfl) (bw_kkz (fun z3 => ?_))
    refine rw_if_ne (tgt := 21) dX10_told_15 (by decide) (fun c4 => ?_) (fun c4 => ?_)
    · have h := bw_if c4 h
      refine rw_iload_n dX10_told_21 rfl rfl ?_
      refine rw_case (4 : Int32) (fun c5 => ?_) (fun c5 => ?_)
      · have h := bw_it c5 h
        refine rw_tabK (tgt := 52) dX10_told_22 c5 (by decide) (by decide) rfl (by decide) ?_
        refine rw_aload_n dX10_told_52 rfl rfl ?_
        refine rw_iload_n dX10_told_53 rfl rfl ?_
        obtain ⟨q6, hq6, h⟩ := bw_bd h
        refine rw_callV1 dX10_told_54 ln_RX10_164 mv_X10_wants (sh_m w) (bw_kl (by decide)) (ct_X10_wants hq6) (Nat.le_of_ble_eq_true rfl) (Nat.le_of_ble_eq_true rfl) (bw_kki ?_)
        have h := Option.some.inj h
        subst h
        exact rw_iret dX10_told_57 ⟨rfl, rfl⟩
      · have h := bw_if c5 h
        refine rw_case (5 : Int32) (fun c7 => ?_) (fun c7 => ?_)
        · have h := bw_it c7 h
          refine rw_tabK (tgt := 58) dX10_told_22 c7 (by decide) (by decide) rfl (by decide) ?_
          refine rw_aload_n dX10_told_58 rfl rfl ?_
          refine rw_iload_n dX10_told_59 rfl rfl ?_
          obtain ⟨q8, hq8, h⟩ := bw_bd h
          refine rw_callV1 dX10_told_60 ln_RX10_157 mv_X10_takes (sh_m w) (bw_kl (by decide)) (ct_X10_takes hq8) (Nat.le_of_ble_eq_true rfl) (Nat.le_of_ble_eq_true rfl) (bw_kki ?_)
          have h := Option.some.inj h
          subst h
          exact rw_iret dX10_told_63 ⟨rfl, rfl⟩
        · have h := bw_if c7 h
          refine rw_case (6 : Int32) (fun c9 => ?_) (fun c9 => ?_)
          · have h := bw_it c9 h
            refine rw_tabK (tgt := 64) dX10_told_22 c9 (by decide) (by decide) rfl (by decide) ?_
            refine rw_aload_n dX10_told_64 rfl rfl ?_
            refine rw_iload_n dX10_told_65 rfl rfl ?_
            refine rw_iconst (v := 0) dX10_told_66 (by decide) ?_
            obtain ⟨q10, hq10, h⟩ := bw_bd h
            refine rw_callV2 dX10_told_67 ln_RX10_151 mv_X10_board4 (sh_m w) (bw_kl (by decide)) (ct_X10_board4 hq10) (Nat.le_of_ble_eq_true rfl) (Nat.le_of_ble_eq_true rfl) (bw_kki ?_)
            refine rw_aload_n dX10_told_70 rfl rfl ?_
            refine rw_iload_n dX10_told_71 rfl rfl ?_
            obtain ⟨q11, hq11, h⟩ := bw_bd h
            refine rw_callV1 dX10_told_72 ln_RX10_167 mv_X10_booksOn (sh_m w) (bw_kl (by decide)) (ct_X10_booksOn hq11) (Nat.le_of_ble_eq_true rfl) (Nat.le_of_ble_eq_true rfl) (bw_kki ?_)
            refine rw_aload_n dX10_told_75 rfl rfl ?_
            refine rw_iload_n dX10_told_76 rfl rfl ?_
            refine rw_iconst (v := 3) dX10_told_77 (by decide) ?_
            obtain ⟨q12, hq12, h⟩ := bw_bd h
            refine rw_callV2 dX10_told_78 ln_RX10_151 mv_X10_board4 (sh_m w) (bw_kl (by decide)) (ct_X10_board4 hq12) (Nat.le_of_ble_eq_true rfl) (Nat.le_of_ble_eq_true rfl) (bw_kki ?_)
            refine rw_callS3 dX10_told_81 ln_RX10_170 ms_X10_worthBy (ct_X10_worthBy rfl) (Nat.le_of_ble_eq_true rfl) (Nat.le_of_ble_eq_true rfl) (bw_kki ?_)
            have h := Option.some.inj h
            subst h
            exact rw_iret dX10_told_84 ⟨rfl, rfl⟩
          · have h := bw_if c9 h
            refine rw_case (7 : Int32) (fun c13 => ?_) (fun c13 => ?_)
            · have h := bw_it c13 h
              refine rw_tabK (tgt := 85) dX10_told_22 c13 (by decide) (by decide) rfl (by decide) ?_
              refine rw_aload_n dX10_told_85 rfl rfl ?_
              refine rw_iload_n dX10_told_86 rfl rfl ?_
              obtain ⟨q14, hq14, h⟩ := bw_bd h
              refine rw_callV1 dX10_told_87 ln_RX10_174 mv_X10_isGood (sh_m w) (bw_kl (by decide)) (ct_X10_isGood hq14) (Nat.le_of_ble_eq_true rfl) (Nat.le_of_ble_eq_true rfl) (bw_kkz (fun z15 => ?_))
              have key : RW w 4 0 0 0 0 cX10_told RX10 3 (some .int) (bw_Z w (bw_pi (out) M)) 98 [] [.int (if q14 = 0 then (0 : Int32) else (1 : Int32))] M := by
                have h := Option.some.inj h
                subst h
                exact rw_iret dX10_told_98 ⟨rfl, rfl⟩
              refine rw_if_eq (tgt := 97) dX10_told_90 (by decide) (fun c16 => ?_) (fun c16 => ?_)
              · refine rw_iconst (v := 0) dX10_told_97 (by decide) ?_
                simp only [if_pos c16] at key
                exact rw_sub rw_lz key
              · refine rw_iconst (v := 1) dX10_told_93 (by decide) ?_
                refine rw_goto (tgt := 98) dX10_told_94 (by decide) ?_
                simp only [if_neg c16] at key
                exact rw_sub rw_lz key
            · have h := bw_if c13 h
              refine rw_tabD (tgt := 99) dX10_told_22 (by have := lv_neT (a := 4) c5 (by decide); have := lv_neT (a := 5) c7 (by decide); have := lv_neT (a := 6) c9 (by decide); have := lv_neT (a := 7) c13 (by decide); omega) (by decide) ?_
              refine rw_aload_n dX10_told_99 rfl rfl ?_
              refine rw_iload_n dX10_told_100 rfl rfl ?_
              refine rw_iload_n dX10_told_101 rfl rfl ?_
              obtain ⟨q17, hq17, h⟩ := bw_bd h
              refine rw_callV2 dX10_told_102 ln_RX10_151 mv_X10_board4 (sh_m w) (bw_kl (by decide)) (ct_X10_board4 hq17) (Nat.le_of_ble_eq_true rfl) (Nat.le_of_ble_eq_true rfl) (bw_kki ?_)
              have h := Option.some.inj h
              subst h
              exact rw_iret dX10_told_105 ⟨rfl, rfl⟩
    · have h := bw_it c4 h
      refine rw_ldc dX10_told_18 cn_RX10_125 ?_
      have h := Option.some.inj h
      subst h
      exact rw_iret dX10_told_20 ⟨rfl, rfl⟩
set_option maxRecDepth 20000 in
set_option maxHeartbeats 1000000 in
theorem ct_X10_isUnder {w : WE} {M : Mem} {v0 : Int32} {v1 : Int32} {out : Int32} (h : f_X10_isUnder v0 v1 = out) : Ct w 0 yX10_isUnder cX10_isUnder 2 (some .boolean) [.int v0, .int v1] M (bw_pz (out) M) := by
  refine Ct.of (own := RX10) rfl (by decide) (by intro v hv; simp only [List.mem_cons, List.not_mem_nil, or_false] at hv; rcases hv with rfl | rfl <;> first | rfl | exact bw_cat_rf _) (Nat.le_of_ble_eq_true rfl) ?_
  unfold f_X10_isUnder at h
  show RW w 0 0 0 0 0 cX10_isUnder RX10 2 (some .boolean) (bw_Z w (bw_pz (out) M)) 0 [(0, .int v0), (1, .int v1)] [] M
  refine rw_iload_n dX10_isUnder_0 rfl rfl ?_
  have key : RW w 0 0 0 0 0 cX10_isUnder RX10 2 (some .boolean) (bw_Z w (bw_pz (out) M)) 34 [] [.int (if v1 = 0 then (1 : Int32) else (if v0 = v1 then (1 : Int32) else (if v1 = (1 : Int32) then (if v0 = (3 : Int32) then (1 : Int32) else (if v1 = (2 : Int32) then (if v0 = (4 : Int32) then (1 : Int32) else (0 : Int32)) else (0 : Int32))) else (if v1 = (2 : Int32) then (if v0 = (4 : Int32) then (1 : Int32) else (0 : Int32)) else (0 : Int32)))))] M := by
    subst h
    exact rw_zret dX10_isUnder_34 (by (repeat' split) <;> first | exact bw_n0 | exact bw_n1) ⟨rfl, rfl, (by (repeat' split) <;> first | exact bw_n0 | exact bw_n1)⟩
  refine rw_if_eq (tgt := 29) dX10_isUnder_1 (by decide) (fun c1 => ?_) (fun c1 => ?_)
  · refine rw_iconst (v := 1) dX10_isUnder_29 (by decide) ?_
    refine rw_goto (tgt := 34) dX10_isUnder_30 (by decide) ?_
    simp only [if_pos c1] at key
    exact rw_sub rw_lz key
  · refine rw_iload_n dX10_isUnder_4 rfl rfl ?_
    refine rw_iload_n dX10_isUnder_5 rfl rfl ?_
    refine rw_icmp_eq (tgt := 29) dX10_isUnder_6 (by decide) (fun c2 => ?_) (fun c2 => ?_)
    · refine rw_iconst (v := 1) dX10_isUnder_29 (by decide) ?_
      refine rw_goto (tgt := 34) dX10_isUnder_30 (by decide) ?_
      simp only [if_neg c1, if_pos c2] at key
      exact rw_sub rw_lz key
    · refine rw_iload_n dX10_isUnder_9 rfl rfl ?_
      refine rw_iconst (v := 1) dX10_isUnder_10 (by decide) ?_
      refine rw_icmp_ne (tgt := 19) dX10_isUnder_11 (by decide) (fun c3 => ?_) (fun c3 => ?_)
      · refine rw_iload_n dX10_isUnder_19 rfl rfl ?_
        refine rw_iconst (v := 2) dX10_isUnder_20 (by decide) ?_
        refine rw_icmp_ne (tgt := 33) dX10_isUnder_21 (by decide) (fun c4 => ?_) (fun c4 => ?_)
        · refine rw_iconst (v := 0) dX10_isUnder_33 (by decide) ?_
          simp only [if_neg c1, if_neg c2, if_neg c3, if_neg c4] at key
          exact rw_sub rw_lz key
        · refine rw_iload_n dX10_isUnder_24 rfl rfl ?_
          refine rw_iconst (v := 4) dX10_isUnder_25 (by decide) ?_
          refine rw_icmp_ne (tgt := 33) dX10_isUnder_26 (by decide) (fun c5 => ?_) (fun c5 => ?_)
          · refine rw_iconst (v := 0) dX10_isUnder_33 (by decide) ?_
            simp only [if_neg c1, if_neg c2, if_neg c3, if_pos c4, if_neg c5] at key
            exact rw_sub rw_lz key
          · refine rw_iconst (v := 1) dX10_isUnder_29 (by decide) ?_
            refine rw_goto (tgt := 34) dX10_isUnder_30 (by decide) ?_
            simp only [if_neg c1, if_neg c2, if_neg c3, if_pos c4, if_pos c5] at key
            exact rw_sub rw_lz key
      · refine rw_iload_n dX10_isUnder_14 rfl rfl ?_
        refine rw_iconst (v := 3) dX10_isUnder_15 (by decide) ?_
        refine rw_icmp_eq (tgt := 29) dX10_isUnder_16 (by decide) (fun c6 => ?_) (fun c6 => ?_)
        · refine rw_iconst (v := 1) dX10_isUnder_29 (by decide) ?_
          refine rw_goto (tgt := 34) dX10_isUnder_30 (by decide) ?_
          simp only [if_neg c1, if_neg c2, if_pos c3, if_pos c6] at key
          exact rw_sub rw_lz key
        · refine rw_iload_n dX10_isUnder_19 rfl rfl ?_
          refine rw_iconst (v := 2) dX10_isUnder_20 (by decide) ?_
          refine rw_icmp_ne (tgt := 33) dX10_isUnder_21 (by decide) (fun c7 => ?_) (fun c7 => ?_)
          · refine rw_iconst (v := 0) dX10_isUnder_33 (by decide) ?_
            simp only [if_neg c1, if_neg c2, if_pos c3, if_neg c6, if_neg c7] at key
            exact rw_sub rw_lz key
          · refine rw_iload_n dX10_isUnder_24 rfl rfl ?_
            refine rw_iconst (v := 4) dX10_isUnder_25 (by decide) ?_
            refine rw_icmp_ne (tgt := 33) dX10_isUnder_26 (by decide) (fun c8 => ?_) (fun c8 => ?_)
            · refine rw_iconst (v := 0) dX10_isUnder_33 (by decide) ?_
              simp only [if_neg c1, if_neg c2, if_pos c3, if_neg c6, if_pos c7, if_neg c8] at key
              exact rw_sub rw_lz key
            · refine rw_iconst (v := 1) dX10_isUnder_29 (by decide) ?_
              refine rw_goto (tgt := 34) dX10_isUnder_30 (by decide) ?_
              simp only [if_neg c1, if_neg c2, if_pos c3, if_neg c6, if_pos c7, if_pos c8] at key
              exact rw_sub rw_lz key
set_option maxRecDepth 20000 in
set_option maxHeartbeats 1000000 in
theorem ct_X10_as {w : WE} {M : Mem} {v1 : Int32} {v2 : Int32} {out : Int32} (h : f_X10_as M v1 v2 = some out) : Ct w 2 yX10_as cX10_as 3 (some .int) [.ref (bw_ad w 93), .int v1, .int v2] M (bw_pi (out) M) := by
  refine Ct.of (own := RX10) rfl (by decide) (by intro v hv; simp only [List.mem_cons, List.not_mem_nil, or_false] at hv; rcases hv with rfl | rfl | rfl <;> first | rfl | exact bw_cat_rf _) (Nat.le_of_ble_eq_true rfl) ?_
  unfold f_X10_as at h
  show RW w 2 0 0 0 0 cX10_as RX10 3 (some .int) (bw_Z w (bw_pi (out) M)) 0 [(0, .ref (bw_ad w 93)), (1, .int v1), (2, .int v2)] [] M
  refine rw_aload_n dX10_as_0 rfl rfl ?_
  refine rw_iload_n dX10_as_1 rfl rfl ?_
  refine rw_callV1 dX10_as_2 ln_RX10_161 mv_X10_isBoard (sh_m w) (bw_kl (by decide)) (ct_X10_isBoard rfl) (Nat.le_of_ble_eq_true rfl) (Nat.le_of_ble_eq_true rfl) (bw_kkz (fun z1 => ?_))
  refine rw_if_eq (tgt := 17) dX10_as_5 (by decide) (fun c2 => ?_) (fun c2 => ?_)
  · have h := bw_it c2 h
    refine rw_ldc dX10_as_17 cn_RX10_125 ?_
    have h := Option.some.inj h
    subst h
    exact rw_iret dX10_as_19 ⟨rfl, rfl⟩
  · have h := bw_if c2 h
    refine rw_iload_n dX10_as_8 rfl rfl ?_
    refine rw_iconst (v := 0) dX10_as_9 (by decide) ?_
    refine rw_iconst (v := 5) dX10_as_10 (by decide) ?_
    refine rw_callS3 dX10_as_11 ln_RX10_117 ms_X10_in (ct_X10_in rfl) (Nat.le_of_ble_eq_true rfl) (Nat.le_of_ble_eq_true rfl) (bw_kkz (fun z3 => ?_))
    refine rw_if_ne (tgt := 20) dX10_as_14 (by decide) (fun c4 => ?_) (fun c4 => ?_)
    · have h := bw_if c4 h
      refine rw_aload_n dX10_as_20 rfl rfl ?_
      refine rw_iload_n dX10_as_21 rfl rfl ?_
      refine rw_iconst (v := 0) dX10_as_22 (by decide) ?_
      obtain ⟨q5, hq5, h⟩ := bw_bd h
      refine rw_callV2 dX10_as_23 ln_RX10_151 mv_X10_board4 (sh_m w) (bw_kl (by decide)) (ct_X10_board4 hq5) (Nat.le_of_ble_eq_true rfl) (Nat.le_of_ble_eq_true rfl) (bw_kki ?_)
      refine rw_iload_n dX10_as_26 rfl rfl ?_
      refine rw_callS2 dX10_as_27 ln_RX10_177 ms_X10_isUnder (ct_X10_isUnder rfl) (Nat.le_of_ble_eq_true rfl) (Nat.le_of_ble_eq_true rfl) (bw_kkz (fun z6 => ?_))
      refine rw_if_eq (tgt := 42) dX10_as_30 (by decide) (fun c7 => ?_) (fun c7 => ?_)
      · have h := bw_it c7 h
        refine rw_ldc dX10_as_42 cn_RX10_181 ?_
        have h := Option.some.inj h
        subst h
        exact rw_iret dX10_as_44 ⟨rfl, rfl⟩
      · have h := bw_if c7 h
        refine rw_aload_n dX10_as_33 rfl rfl ?_
        refine rw_iload_n dX10_as_34 rfl rfl ?_
        refine rw_iconst (v := 3) dX10_as_35 (by decide) ?_
        obtain ⟨q8, hq8, h⟩ := bw_bd h
        refine rw_callV2 dX10_as_36 ln_RX10_151 mv_X10_board4 (sh_m w) (bw_kl (by decide)) (ct_X10_board4 hq8) (Nat.le_of_ble_eq_true rfl) (Nat.le_of_ble_eq_true rfl) (bw_kki ?_)
        refine rw_goto (tgt := 44) dX10_as_39 (by decide) ?_
        have h := Option.some.inj h
        subst h
        exact rw_iret dX10_as_44 ⟨rfl, rfl⟩
    · have h := bw_it c4 h
      refine rw_ldc dX10_as_17 cn_RX10_125 ?_
      have h := Option.some.inj h
      subst h
      exact rw_iret dX10_as_19 ⟨rfl, rfl⟩
set_option maxRecDepth 20000 in
set_option maxHeartbeats 1000000 in
theorem ct_X10_turns {w : WE} {M : Mem} {v1 : Int32} {v2 : Int32} {out : Int32 × Mem} (h : f_X10_turns M v1 v2 = some out) : Ct w 2 yX10_turns cX10_turns 4 (some .int) [.ref (bw_ad w 93), .int v1, .int v2] M (bw_pi (out.1) out.2) := by
  refine Ct.of (own := RX10) rfl (by decide) (by intro v hv; simp only [List.mem_cons, List.not_mem_nil, or_false] at hv; rcases hv with rfl | rfl | rfl <;> first | rfl | exact bw_cat_rf _) (Nat.le_of_ble_eq_true rfl) ?_
  unfold f_X10_turns at h
  show RW w 2 0 0 0 0 cX10_turns RX10 4 (some .int) (bw_Z w (bw_pi (out.1) out.2)) 0 [(0, .ref (bw_ad w 93)), (1, .int v1), (2, .int v2)] [] M
  refine rw_aload_n dX10_turns_0 rfl rfl ?_
  refine rw_iload_n dX10_turns_1 rfl rfl ?_
  refine rw_callV1 dX10_turns_2 ln_RX10_161 mv_X10_isBoard (sh_m w) (bw_kl (by decide)) (ct_X10_isBoard rfl) (Nat.le_of_ble_eq_true rfl) (Nat.le_of_ble_eq_true rfl) (bw_kkz (fun z1 => ?_))
  refine rw_if_eq (tgt := 17) dX10_turns_5 (by decide) (fun c2 => ?_) (fun c2 => ?_)
  · have h := bw_it c2 h
    refine rw_ldc dX10_turns_17 cn_RX10_125 ?_
    have h := Option.some.inj h
    subst h
    exact rw_iret dX10_turns_19 ⟨rfl, rfl⟩
  · have h := bw_if c2 h
    refine rw_iload_n dX10_turns_8 rfl rfl ?_
    refine rw_iconst (v := 0) dX10_turns_9 (by decide) ?_
    refine rw_iconst (v := 5) dX10_turns_10 (by decide) ?_
    refine rw_callS3 dX10_turns_11 ln_RX10_117 ms_X10_in (ct_X10_in rfl) (Nat.le_of_ble_eq_true rfl) (Nat.le_of_ble_eq_true rfl) (bw_kkz (fun z3 => ?_))
    refine rw_if_ne (tgt := 20) dX10_turns_14 (by decide) (fun c4 => ?_) (fun c4 => ?_)
    · have h := bw_if c4 h
      refine rw_aload_n dX10_turns_20 rfl rfl ?_
      refine rw_iload_n dX10_turns_21 rfl rfl ?_
      refine rw_iconst (v := 0) dX10_turns_22 (by decide) ?_
      obtain ⟨q5, hq5, h⟩ := bw_bd h
      refine rw_callV2 dX10_turns_23 ln_RX10_151 mv_X10_board4 (sh_m w) (bw_kl (by decide)) (ct_X10_board4 hq5) (Nat.le_of_ble_eq_true rfl) (Nat.le_of_ble_eq_true rfl) (bw_kki ?_)
      refine rw_istore_n dX10_turns_26 rfl (by decide) ?_
      refine rw_aload_n dX10_turns_27 rfl rfl ?_
      refine rw_get dX10_turns_28 fl_RX10_9 (sh_m w) (bw_kl (by decide)) rfl ?_
      refine rw_bipush (v := 110) dX10_turns_31 (by decide) ?_
      refine rw_iconst (v := 4) dX10_turns_33 (by decide) ?_
      refine rw_iload_n dX10_turns_34 rfl rfl ?_
      refine rw_imul dX10_turns_35 ?_
      refine rw_iadd dX10_turns_36 ?_
      refine rw_iload_n dX10_turns_37 rfl rfl ?_
      obtain ⟨g6, h⟩ := bw_gd h
      refine rw_iast dX10_turns_38 (sh_m_now w) (bw_kl (by decide)) (bw_in g6) ?_
      obtain ⟨M7, hM7, h⟩ := bw_mlE h
      refine rw_m hM7.symm ?_
      refine rw_iload_n dX10_turns_39 rfl rfl ?_
      have h := Option.some.inj h
      subst h
      exact rw_iret dX10_turns_40 ⟨rfl, rfl⟩
    · have h := bw_it c4 h
      refine rw_ldc dX10_turns_17 cn_RX10_125 ?_
      have h := Option.some.inj h
      subst h
      exact rw_iret dX10_turns_19 ⟨rfl, rfl⟩
set_option maxRecDepth 20000 in
set_option maxHeartbeats 1000000 in
theorem th_X10_drop_L28 {w : WE} {out : Int32 × Mem} : ∀ (n : Nat) (v2 : Int32) (M : Mem), f_X10_drop_L28 n v2 M = some out → RW w 2 0 0 0 0 cX10_drop RX10 3 (some .int) (bw_Z w (bw_pi (out.1) out.2)) 28 [(0, .ref (bw_ad w 93)), (2, .int v2)] [] M := by
  intro n
  induction n with
  | zero => intro v2 M h; cases h
  | succ n ih =>
    intro v2 M h
    rw [f_X10_drop_L28] at h
    refine rw_iload_n dX10_drop_28 rfl rfl ?_
    refine rw_bipush (v := 110) dX10_drop_29 (by decide) ?_
    refine rw_iconst (v := 4) dX10_drop_31 (by decide) ?_
    refine rw_aload_n dX10_drop_32 rfl rfl ?_
    refine rw_get dX10_drop_33 fl_RX10_9 (sh_m w) (bw_kl (by decide)) rfl ?_
    refine rw_iconst (v := 5) dX10_drop_36 (by decide) ?_
    refine rw_iald dX10_drop_37 (sh_m_now w) (bw_kl (by decide)) (bw_in (show bw_ib (5 : Int32) 1530 = true by decide)) ?_
    refine rw_imul dX10_drop_38 ?_
    refine rw_iadd dX10_drop_39 ?_
    refine rw_icmp_ge (tgt := 63) dX10_drop_40 (by decide) (fun c5 => ?_) (fun c5 => ?_)
    · have h := bw_it c5 h
      refine rw_aload_n dX10_drop_63 rfl rfl ?_
      refine rw_get dX10_drop_64 fl_RX10_9 (sh_m w) (bw_kl (by decide)) rfl ?_
      refine rw_iconst (v := 5) dX10_drop_67 (by decide) ?_
      refine rw_iald dX10_drop_68 (sh_m_now w) (bw_kl (by decide)) (bw_in (show bw_ib (5 : Int32) 1530 = true by decide)) ?_
      have h := Option.some.inj h
      subst h
      exact rw_iret dX10_drop_69 ⟨rfl, rfl⟩
    · have h := bw_if c5 h
      refine rw_aload_n dX10_drop_43 rfl rfl ?_
      refine rw_get dX10_drop_44 fl_RX10_9 (sh_m w) (bw_kl (by decide)) rfl ?_
      refine rw_iload_n dX10_drop_47 rfl rfl ?_
      refine rw_aload_n dX10_drop_48 rfl rfl ?_
      refine rw_get dX10_drop_49 fl_RX10_9 (sh_m w) (bw_kl (by decide)) rfl ?_
      refine rw_iload_n dX10_drop_52 rfl rfl ?_
      refine rw_iconst (v := 4) dX10_drop_53 (by decide) ?_
      refine rw_iadd dX10_drop_54 ?_
      obtain ⟨g6, h⟩ := bw_gd h
      refine rw_iald dX10_drop_55 (sh_m_now w) (bw_kl (by decide)) (bw_in g6) ?_
      obtain ⟨g7, h⟩ := bw_gd h
      refine rw_iast dX10_drop_56 (sh_m_now w) (bw_kl (by decide)) (bw_in g7) ?_
      obtain ⟨M8, hM8, h⟩ := bw_mlE h
      refine rw_m hM8.symm ?_
      refine rw_inc dX10_drop_57 rfl (by decide) ?_
      refine rw_goto (tgt := 28) dX10_drop_60 (by decide) ?_
      exact rw_sub (rw_lc rfl (rw_lc rfl rw_lz)) (ih (v2 + 1) M8 h)
set_option maxRecDepth 20000 in
set_option maxHeartbeats 1000000 in
theorem ct_X10_drop {w : WE} {M : Mem} {v1 : Int32} {out : Int32 × Mem} (h : f_X10_drop M v1 = some out) : Ct w 2 yX10_drop cX10_drop 3 (some .int) [.ref (bw_ad w 93), .int v1] M (bw_pi (out.1) out.2) := by
  refine Ct.of (own := RX10) rfl (by decide) (by intro v hv; simp only [List.mem_cons, List.not_mem_nil, or_false] at hv; rcases hv with rfl | rfl <;> first | rfl | exact bw_cat_rf _) (Nat.le_of_ble_eq_true rfl) ?_
  unfold f_X10_drop at h
  show RW w 2 0 0 0 0 cX10_drop RX10 3 (some .int) (bw_Z w (bw_pi (out.1) out.2)) 0 [(0, .ref (bw_ad w 93)), (1, .int v1)] [] M
  refine rw_aload_n dX10_drop_0 rfl rfl ?_
  refine rw_iload_n dX10_drop_1 rfl rfl ?_
  refine rw_callV1 dX10_drop_2 ln_RX10_161 mv_X10_isBoard (sh_m w) (bw_kl (by decide)) (ct_X10_isBoard rfl) (Nat.le_of_ble_eq_true rfl) (Nat.le_of_ble_eq_true rfl) (bw_kkz (fun z1 => ?_))
  refine rw_if_ne (tgt := 11) dX10_drop_5 (by decide) (fun c2 => ?_) (fun c2 => ?_)
  · have h := bw_if c2 h
    refine rw_aload_n dX10_drop_11 rfl rfl ?_
    refine rw_get dX10_drop_12 fl_RX10_9 (sh_m w) (bw_kl (by decide)) rfl ?_
    refine rw_iconst (v := 5) dX10_drop_15 (by decide) ?_
    refine rw_dup2 dX10_drop_16 rfl rfl ?_
    refine rw_iald dX10_drop_17 (sh_m_now w) (bw_kl (by decide)) (bw_in (show bw_ib (5 : Int32) 1530 = true by decide)) ?_
    refine rw_iconst (v := 1) dX10_drop_18 (by decide) ?_
    refine rw_isub dX10_drop_19 ?_
    refine rw_iast dX10_drop_20 (sh_m_now w) (bw_kl (by decide)) (bw_in (show bw_ib (5 : Int32) 1530 = true by decide)) ?_
    obtain ⟨M3, hM3, h⟩ := bw_mlE h
    refine rw_m hM3.symm ?_
    refine rw_bipush (v := 110) dX10_drop_21 (by decide) ?_
    refine rw_iconst (v := 4) dX10_drop_23 (by decide) ?_
    refine rw_iload_n dX10_drop_24 rfl rfl ?_
    refine rw_imul dX10_drop_25 ?_
    refine rw_iadd dX10_drop_26 ?_
    obtain ⟨x4, hx4, h⟩ := bw_mlE h
    refine rw_ti hx4 ?_
    refine rw_istore_n dX10_drop_27 rfl (by decide) ?_
    exact rw_sub (rw_lc rfl (rw_lc rfl rw_lz)) (th_X10_drop_L28 bw_fu x4 M3 h)
  · have h := bw_it c2 h
    refine rw_ldc dX10_drop_8 cn_RX10_125 ?_
    have h := Option.some.inj h
    subst h
    exact rw_iret dX10_drop_10 ⟨rfl, rfl⟩
set_option maxRecDepth 20000 in
set_option maxHeartbeats 1000000 in
theorem th_X10_firstBad_L2 {w : WE} {M : Mem} {out : Int32} : ∀ (n : Nat) (v1 : Int32), f_X10_firstBad_L2 M n v1 = some out → RW w 4 0 0 0 0 cX10_firstBad RX10 2 (some .int) (bw_Z w (bw_pi (out) M)) 2 [(0, .ref (bw_ad w 93)), (1, .int v1)] [] M := by
  intro n
  induction n with
  | zero => intro v1 h; cases h
  | succ n ih =>
    intro v1 h
    rw [f_X10_firstBad_L2] at h
    refine rw_iload_n dX10_firstBad_2 rfl rfl ?_
    refine rw_aload_n dX10_firstBad_3 rfl rfl ?_
    refine rw_get dX10_firstBad_4 fl_RX10_9 (sh_m w) (bw_kl (by decide)) rfl ?_
    refine rw_iconst (v := 5) dX10_firstBad_7 (by decide) ?_
    refine rw_iald dX10_firstBad_8 (sh_m_now w) (bw_kl (by decide)) (bw_in (show bw_ib (5 : Int32) 1530 = true by decide)) ?_
    refine rw_icmp_ge (tgt := 28) dX10_firstBad_9 (by decide) (fun c1 => ?_) (fun c1 => ?_)
    · have h := bw_it c1 h
      refine rw_ldc dX10_firstBad_28 cn_RX10_145 ?_
      have h := Option.some.inj h
      subst h
      exact rw_iret dX10_firstBad_30 ⟨rfl, rfl⟩
    · have h := bw_if c1 h
      refine rw_aload_n dX10_firstBad_12 rfl rfl ?_
      refine rw_iload_n dX10_firstBad_13 rfl rfl ?_
      obtain ⟨q2, hq2, h⟩ := bw_bd h
      refine rw_callV1 dX10_firstBad_14 ln_RX10_174 mv_X10_isGood (sh_m w) (bw_kl (by decide)) (ct_X10_isGood hq2) (Nat.le_of_ble_eq_true rfl) (Nat.le_of_ble_eq_true rfl) (bw_kkz (fun z3 => ?_))
      refine rw_if_ne (tgt := 22) dX10_firstBad_17 (by decide) (fun c4 => ?_) (fun c4 => ?_)
      · have h := bw_if c4 h
        refine rw_inc dX10_firstBad_22 rfl (by decide) ?_
        refine rw_goto (tgt := 2) dX10_firstBad_25 (by decide) ?_
        exact rw_sub (rw_lc rfl (rw_lc rfl rw_lz)) (ih (v1 + 1) h)
      · have h := bw_it c4 h
        refine rw_iload_n dX10_firstBad_20 rfl rfl ?_
        have h := Option.some.inj h
        subst h
        exact rw_iret dX10_firstBad_21 ⟨rfl, rfl⟩
set_option maxRecDepth 20000 in
set_option maxHeartbeats 1000000 in
theorem ct_X10_firstBad {w : WE} {M : Mem} {out : Int32} (h : f_X10_firstBad M = some out) : Ct w 4 yX10_firstBad cX10_firstBad 2 (some .int) [.ref (bw_ad w 93)] M (bw_pi (out) M) := by
  refine Ct.of (own := RX10) rfl (by decide) (by intro v hv; rw [List.mem_singleton.mp hv]; first | rfl | exact bw_cat_rf _) (Nat.le_of_ble_eq_true rfl) ?_
  unfold f_X10_firstBad at h
  show RW w 4 0 0 0 0 cX10_firstBad RX10 2 (some .int) (bw_Z w (bw_pi (out) M)) 0 [(0, .ref (bw_ad w 93))] [] M
  refine rw_iconst (v := 0) dX10_firstBad_0 (by decide) ?_
  refine rw_istore_n dX10_firstBad_1 rfl (by decide) ?_
  exact rw_sub (rw_lc rfl (rw_lc rfl rw_lz)) (th_X10_firstBad_L2 bw_fu (0 : Int32) h)
set_option maxRecDepth 20000 in
set_option maxHeartbeats 1000000 in
theorem th_X10_firstLoose_L16 {w : WE} {M : Mem} {v1 : Int32} {Z : Option Value → Heap → Prop} {out : Int32} : ∀ (n : Nat) (v2 : Int32) (v3 : Int32), f_X10_firstLoose_L16 M v1 n v2 v3 = some out → RW w 1 0 0 0 0 cX10_firstLoose RX10 4 (some .int) Z 59 [(0, .ref (bw_ad w 93)), (1, .int v1), (2, .int out)] [] M → RW w 1 0 0 0 0 cX10_firstLoose RX10 4 (some .int) Z 16 [(0, .ref (bw_ad w 93)), (1, .int v1), (2, .int v2), (3, .int v3)] [] M := by
  intro n
  induction n with
  | zero => intro v2 v3 h hk; cases h
  | succ n ih =>
    intro v2 v3 h hk
    rw [f_X10_firstLoose_L16] at h
    refine rw_iload_n dX10_firstLoose_16 rfl rfl ?_
    refine rw_aload_n dX10_firstLoose_17 rfl rfl ?_
    refine rw_get dX10_firstLoose_18 fl_RX10_9 (sh_m w) (bw_kl (by decide)) rfl ?_
    refine rw_iconst (v := 5) dX10_firstLoose_21 (by decide) ?_
    refine rw_iald dX10_firstLoose_22 (sh_m_now w) (bw_kl (by decide)) (bw_in (show bw_ib (5 : Int32) 1530 = true by decide)) ?_
    refine rw_icmp_ge (tgt := 59) dX10_firstLoose_23 (by decide) (fun c2 => ?_) (fun c2 => ?_)
    · have h := bw_it c2 h
      have h := Option.some.inj h
      subst h
      exact rw_sub (rw_lc rfl (rw_lc rfl (rw_lc rfl rw_lz))) hk
    · have h := bw_if c2 h
      refine rw_iload_n dX10_firstLoose_26 rfl rfl ?_
      refine rw_iload_n dX10_firstLoose_27 rfl rfl ?_
      refine rw_aload_n dX10_firstLoose_28 rfl rfl ?_
      refine rw_iload_n dX10_firstLoose_29 rfl rfl ?_
      refine rw_iconst (v := 1) dX10_firstLoose_30 (by decide) ?_
      obtain ⟨q3, hq3, h⟩ := bw_bd h
      refine rw_callV2 dX10_firstLoose_31 ln_RX10_151 mv_X10_board4 (sh_m w) (bw_kl (by decide)) (ct_X10_board4 hq3) (Nat.le_of_ble_eq_true rfl) (Nat.le_of_ble_eq_true rfl) (bw_kki ?_)
      refine rw_aload_n dX10_firstLoose_34 rfl rfl ?_
      refine rw_iload_n dX10_firstLoose_35 rfl rfl ?_
      refine rw_iconst (v := 2) dX10_firstLoose_36 (by decide) ?_
      obtain ⟨q4, hq4, h⟩ := bw_bd h
      refine rw_callV2 dX10_firstLoose_37 ln_RX10_151 mv_X10_board4 (sh_m w) (bw_kl (by decide)) (ct_X10_board4 hq4) (Nat.le_of_ble_eq_true rfl) (Nat.le_of_ble_eq_true rfl) (bw_kki ?_)
      refine rw_callS3 dX10_firstLoose_40 ln_RX10_117 ms_X10_in (ct_X10_in rfl) (Nat.le_of_ble_eq_true rfl) (Nat.le_of_ble_eq_true rfl) (bw_kkz (fun z5 => ?_))
      have key : RW w 1 0 0 0 0 cX10_firstLoose RX10 4 (some .int) Z 51 [(0, .ref (bw_ad w 93)), (1, .int v1), (3, .int v3)] [.int (if (f_X10_in v1 q3 q4) = 0 then (0 : Int32) else (1 : Int32)), .int v2] M := by
        refine rw_iadd dX10_firstLoose_51 ?_
        obtain ⟨x7, hx7, h⟩ := bw_mlE h
        refine rw_ti hx7 ?_
        refine rw_istore_n dX10_firstLoose_52 rfl (by decide) ?_
        refine rw_inc dX10_firstLoose_53 rfl (by decide) ?_
        refine rw_goto (tgt := 16) dX10_firstLoose_56 (by decide) ?_
        exact rw_sub (rw_lc rfl (rw_lc rfl (rw_lc rfl (rw_lc rfl rw_lz)))) (ih x7 (v3 + 1) h hk)
      refine rw_if_eq (tgt := 50) dX10_firstLoose_43 (by decide) (fun c6 => ?_) (fun c6 => ?_)
      · refine rw_iconst (v := 0) dX10_firstLoose_50 (by decide) ?_
        simp only [if_pos c6] at key
        exact rw_sub (rw_lc rfl (rw_lc rfl (rw_lc rfl rw_lz))) key
      · refine rw_iconst (v := 1) dX10_firstLoose_46 (by decide) ?_
        refine rw_goto (tgt := 51) dX10_firstLoose_47 (by decide) ?_
        simp only [if_neg c6] at key
        exact rw_sub (rw_lc rfl (rw_lc rfl (rw_lc rfl rw_lz))) key
set_option maxRecDepth 20000 in
set_option maxHeartbeats 1000000 in
theorem th_X10_firstLoose_L2 {w : WE} {M : Mem} {out : Int32} : ∀ (n : Nat) (v1 : Int32), f_X10_firstLoose_L2 M n v1 = some out → RW w 1 0 0 0 0 cX10_firstLoose RX10 4 (some .int) (bw_Z w (bw_pi (out) M)) 2 [(0, .ref (bw_ad w 93)), (1, .int v1)] [] M := by
  intro n
  induction n with
  | zero => intro v1 h; cases h
  | succ n ih =>
    intro v1 h
    rw [f_X10_firstLoose_L2] at h
    refine rw_iload_n dX10_firstLoose_2 rfl rfl ?_
    refine rw_aload_n dX10_firstLoose_3 rfl rfl ?_
    refine rw_get dX10_firstLoose_4 fl_RX10_9 (sh_m w) (bw_kl (by decide)) rfl ?_
    refine rw_iconst (v := 4) dX10_firstLoose_7 (by decide) ?_
    refine rw_iald dX10_firstLoose_8 (sh_m_now w) (bw_kl (by decide)) (bw_in (show bw_ib (4 : Int32) 1530 = true by decide)) ?_
    refine rw_icmp_ge (tgt := 72) dX10_firstLoose_9 (by decide) (fun c1 => ?_) (fun c1 => ?_)
    · have h := bw_it c1 h
      refine rw_ldc dX10_firstLoose_72 cn_RX10_145 ?_
      have h := Option.some.inj h
      subst h
      exact rw_iret dX10_firstLoose_74 ⟨rfl, rfl⟩
    · have h := bw_if c1 h
      refine rw_iconst (v := 0) dX10_firstLoose_12 (by decide) ?_
      refine rw_istore_n dX10_firstLoose_13 rfl (by decide) ?_
      refine rw_iconst (v := 0) dX10_firstLoose_14 (by decide) ?_
      refine rw_istore_n dX10_firstLoose_15 rfl (by decide) ?_
      obtain ⟨q8, hq8, h⟩ := bw_bd h
      refine rw_sub (rw_lc rfl (rw_lc rfl (rw_lc rfl (rw_lc rfl rw_lz)))) (th_X10_firstLoose_L16 bw_fu (0 : Int32) (0 : Int32) hq8 ?_)
      refine rw_iload_n dX10_firstLoose_59 rfl rfl ?_
      refine rw_iconst (v := 1) dX10_firstLoose_60 (by decide) ?_
      refine rw_icmp_eq (tgt := 66) dX10_firstLoose_61 (by decide) (fun c9 => ?_) (fun c9 => ?_)
      · have h := bw_it c9 h
        refine rw_inc dX10_firstLoose_66 rfl (by decide) ?_
        refine rw_goto (tgt := 2) dX10_firstLoose_69 (by decide) ?_
        exact rw_sub (rw_lc rfl (rw_lc rfl rw_lz)) (ih (v1 + 1) h)
      · have h := bw_if c9 h
        refine rw_iload_n dX10_firstLoose_64 rfl rfl ?_
        have h := Option.some.inj h
        subst h
        exact rw_iret dX10_firstLoose_65 ⟨rfl, rfl⟩
set_option maxRecDepth 20000 in
set_option maxHeartbeats 1000000 in
theorem ct_X10_firstLoose {w : WE} {M : Mem} {out : Int32} (h : f_X10_firstLoose M = some out) : Ct w 1 yX10_firstLoose cX10_firstLoose 4 (some .int) [.ref (bw_ad w 93)] M (bw_pi (out) M) := by
  refine Ct.of (own := RX10) rfl (by decide) (by intro v hv; rw [List.mem_singleton.mp hv]; first | rfl | exact bw_cat_rf _) (Nat.le_of_ble_eq_true rfl) ?_
  unfold f_X10_firstLoose at h
  show RW w 1 0 0 0 0 cX10_firstLoose RX10 4 (some .int) (bw_Z w (bw_pi (out) M)) 0 [(0, .ref (bw_ad w 93))] [] M
  refine rw_iconst (v := 0) dX10_firstLoose_0 (by decide) ?_
  refine rw_istore_n dX10_firstLoose_1 rfl (by decide) ?_
  exact rw_sub (rw_lc rfl (rw_lc rfl rw_lz)) (th_X10_firstLoose_L2 bw_fu (0 : Int32) h)
set_option maxRecDepth 20000 in
set_option maxHeartbeats 1000000 in
theorem th_X10_judge_L37 {w : WE} {M : Mem} {out : Int32} : ∀ (n : Nat) (v2 : Int32) (v3 : Int32), f_X10_judge_L37 M n v2 v3 = some out → RW w 5 0 0 0 0 cX10_judge RX10 4 (some .int) (bw_Z w (bw_pi (out) M)) 37 [(0, .ref (bw_ad w 93)), (2, .int v2), (3, .int v3)] [] M := by
  intro n
  induction n with
  | zero => intro v2 v3 h; cases h
  | succ n ih =>
    intro v2 v3 h
    rw [f_X10_judge_L37] at h
    refine rw_iload_n dX10_judge_37 rfl rfl ?_
    refine rw_aload_n dX10_judge_38 rfl rfl ?_
    refine rw_get dX10_judge_39 fl_RX10_9 (sh_m w) (bw_kl (by decide)) rfl ?_
    refine rw_iconst (v := 5) dX10_judge_42 (by decide) ?_
    refine rw_iald dX10_judge_43 (sh_m_now w) (bw_kl (by decide)) (bw_in (show bw_ib (5 : Int32) 1530 = true by decide)) ?_
    refine rw_icmp_ge (tgt := 68) dX10_judge_44 (by decide) (fun c4 => ?_) (fun c4 => ?_)
    · have h := bw_it c4 h
      refine rw_iload_n dX10_judge_68 rfl rfl ?_
      have h := Option.some.inj h
      subst h
      exact rw_iret dX10_judge_69 ⟨rfl, rfl⟩
    · have h := bw_if c4 h
      refine rw_iload_n dX10_judge_47 rfl rfl ?_
      refine rw_aload_n dX10_judge_48 rfl rfl ?_
      refine rw_iload_n dX10_judge_49 rfl rfl ?_
      obtain ⟨q5, hq5, h⟩ := bw_bd h
      refine rw_callV1 dX10_judge_50 ln_RX10_164 mv_X10_wants (sh_m w) (bw_kl (by decide)) (ct_X10_wants hq5) (Nat.le_of_ble_eq_true rfl) (Nat.le_of_ble_eq_true rfl) (bw_kki ?_)
      refine rw_aload_n dX10_judge_53 rfl rfl ?_
      refine rw_get dX10_judge_54 fl_RX10_9 (sh_m w) (bw_kl (by decide)) rfl ?_
      refine rw_iconst (v := 2) dX10_judge_57 (by decide) ?_
      refine rw_iald dX10_judge_58 (sh_m_now w) (bw_kl (by decide)) (bw_in (show bw_ib (2 : Int32) 1530 = true by decide)) ?_
      refine rw_iadd dX10_judge_59 ?_
      refine rw_iadd dX10_judge_60 ?_
      obtain ⟨x6, hx6, h⟩ := bw_mlE h
      refine rw_ti hx6 ?_
      refine rw_istore_n dX10_judge_61 rfl (by decide) ?_
      refine rw_inc dX10_judge_62 rfl (by decide) ?_
      refine rw_goto (tgt := 37) dX10_judge_65 (by decide) ?_
      exact rw_sub (rw_lc rfl (rw_lc rfl (rw_lc rfl rw_lz))) (ih x6 (v3 + 1) h)
set_option maxRecDepth 20000 in
set_option maxHeartbeats 1000000 in
theorem ct_X10_judge {w : WE} {M : Mem} {v1 : Int32} {out : Int32} (h : f_X10_judge M v1 = some out) : Ct w 5 yX10_judge cX10_judge 4 (some .int) [.ref (bw_ad w 93), .int v1] M (bw_pi (out) M) := by
  refine Ct.of (own := RX10) rfl (by decide) (by intro v hv; simp only [List.mem_cons, List.not_mem_nil, or_false] at hv; rcases hv with rfl | rfl <;> first | rfl | exact bw_cat_rf _) (Nat.le_of_ble_eq_true rfl) ?_
  unfold f_X10_judge at h
  show RW w 5 0 0 0 0 cX10_judge RX10 4 (some .int) (bw_Z w (bw_pi (out) M)) 0 [(0, .ref (bw_ad w 93)), (1, .int v1)] [] M
  refine rw_iload_n dX10_judge_0 rfl rfl ?_
  refine rw_iconst (v := 0) dX10_judge_1 (by decide) ?_
  refine rw_iconst (v := 2) dX10_judge_2 (by decide) ?_
  refine rw_callS3 dX10_judge_3 ln_RX10_117 ms_X10_in (ct_X10_in rfl) (Nat.le_of_ble_eq_true rfl) (Nat.le_of_ble_eq_true rfl) (bw_kkz (fun z1 => ?_))
  refine rw_if_ne (tgt := 12) dX10_judge_6 (by decide) (fun c2 => ?_) (fun c2 => ?_)
  · have h := bw_if c2 h
    refine rw_iload_n dX10_judge_12 rfl rfl ?_
    refine rw_iconst (v := 2) dX10_judge_13 (by decide) ?_
    refine rw_icmp_ge (tgt := 33) dX10_judge_14 (by decide) (fun c3 => ?_) (fun c3 => ?_)
    · have h := bw_it c3 h
      refine rw_iconst (v := 0) dX10_judge_33 (by decide) ?_
      refine rw_istore_n dX10_judge_34 rfl (by decide) ?_
      refine rw_iconst (v := 0) dX10_judge_35 (by decide) ?_
      refine rw_istore_n dX10_judge_36 rfl (by decide) ?_
      exact rw_sub (rw_lc rfl (rw_lc rfl (rw_lc rfl rw_lz))) (th_X10_judge_L37 bw_fu (0 : Int32) (0 : Int32) h)
    · have h := bw_if c3 h
      refine rw_iload_n dX10_judge_17 rfl rfl ?_
      refine rw_if_ne (tgt := 28) dX10_judge_18 (by decide) (fun c7 => ?_) (fun c7 => ?_)
      · have h := bw_if c7 h
        refine rw_aload_n dX10_judge_28 rfl rfl ?_
        obtain ⟨q8, hq8, h⟩ := bw_bd h
        refine rw_callV0 dX10_judge_29 ln_RX10_185 mv_X10_firstLoose (sh_m w) (bw_kl (by decide)) (ct_X10_firstLoose hq8) (Nat.le_of_ble_eq_true rfl) (Nat.le_of_ble_eq_true rfl) (bw_kki ?_)
        have h := Option.some.inj h
        subst h
        exact rw_iret dX10_judge_32 ⟨rfl, rfl⟩
      · have h := bw_it c7 h
        refine rw_aload_n dX10_judge_21 rfl rfl ?_
        obtain ⟨q9, hq9, h⟩ := bw_bd h
        refine rw_callV0 dX10_judge_22 ln_RX10_182 mv_X10_firstBad (sh_m w) (bw_kl (by decide)) (ct_X10_firstBad hq9) (Nat.le_of_ble_eq_true rfl) (Nat.le_of_ble_eq_true rfl) (bw_kki ?_)
        refine rw_goto (tgt := 32) dX10_judge_25 (by decide) ?_
        have h := Option.some.inj h
        subst h
        exact rw_iret dX10_judge_32 ⟨rfl, rfl⟩
  · have h := bw_it c2 h
    refine rw_ldc dX10_judge_9 cn_RX10_125 ?_
    have h := Option.some.inj h
    subst h
    exact rw_iret dX10_judge_11 ⟨rfl, rfl⟩
set_option maxRecDepth 20000 in
set_option maxHeartbeats 1000000 in
theorem ct_X10_setting {w : WE} {M : Mem} {v1 : Int32} {out : Int32 × Mem} (h : f_X10_setting M v1 = some out) : Ct w 5 yX10_setting cX10_setting 2 (some .int) [.ref (bw_ad w 93), .int v1] M (bw_pi (out.1) out.2) := by
  refine Ct.of (own := RX10) rfl (by decide) (by intro v hv; simp only [List.mem_cons, List.not_mem_nil, or_false] at hv; rcases hv with rfl | rfl <;> first | rfl | exact bw_cat_rf _) (Nat.le_of_ble_eq_true rfl) ?_
  unfold f_X10_setting at h
  show RW w 5 0 0 0 0 cX10_setting RX10 2 (some .int) (bw_Z w (bw_pi (out.1) out.2)) 0 [(0, .ref (bw_ad w 93)), (1, .int v1)] [] M
  refine rw_iload_n dX10_setting_0 rfl rfl ?_
  refine rw_bipush (v := -2) dX10_setting_1 (by decide) ?_
  refine rw_icmp_ge (tgt := 9) dX10_setting_3 (by decide) (fun c1 => ?_) (fun c1 => ?_)
  · have h := bw_it c1 h
    refine rw_aload_n dX10_setting_9 rfl rfl ?_
    obtain ⟨q2, hq2, h⟩ := bw_bd h
    refine rw_callV0 dX10_setting_10 ln_RX10_138 mv_X10_settles (sh_m w) (bw_kl (by decide)) (ct_X10_settles hq2) (Nat.le_of_ble_eq_true rfl) (Nat.le_of_ble_eq_true rfl) (bw_kkv ?_)
    refine rw_aload_n dX10_setting_13 rfl rfl ?_
    refine rw_get dX10_setting_14 fl_RX10_141 (sh_m w) (bw_kl (by decide)) rfl ?_
    refine rw_if_ge (tgt := 23) dX10_setting_17 (by decide) (fun c3 => ?_) (fun c3 => ?_)
    · have h := bw_it c3 h
      refine rw_iload_n dX10_setting_23 rfl rfl ?_
      refine rw_if_ge (tgt := 45) dX10_setting_24 (by decide) (fun c4 => ?_) (fun c4 => ?_)
      · have h := bw_it c4 h
        refine rw_iload_n dX10_setting_45 rfl rfl ?_
        refine rw_aload_n dX10_setting_46 rfl rfl ?_
        refine rw_get dX10_setting_47 fl_RX10_219 (sh_m w) (bw_kl (by decide)) rfl ?_
        refine rw_icmp_ge (tgt := 62) dX10_setting_50 (by decide) (fun c5 => ?_) (fun c5 => ?_)
        · have h := bw_it c5 h
          refine rw_ldc dX10_setting_62 cn_RX10_145 ?_
          have h := Option.some.inj h
          subst h
          exact rw_iret dX10_setting_64 ⟨rfl, rfl⟩
        · have h := bw_if c5 h
          refine rw_aload_n dX10_setting_53 rfl rfl ?_
          refine rw_get dX10_setting_54 fl_RX10_44 (sh_m w) (bw_kl (by decide)) rfl ?_
          refine rw_iload_n dX10_setting_57 rfl rfl ?_
          obtain ⟨g6, h⟩ := bw_gd h
          refine rw_iald dX10_setting_58 (sh_m_starts w) (bw_kl (by decide)) (bw_in g6) ?_
          refine rw_goto (tgt := 64) dX10_setting_59 (by decide) ?_
          have h := Option.some.inj h
          subst h
          exact rw_iret dX10_setting_64 ⟨rfl, rfl⟩
      · have h := bw_if c4 h
        refine rw_iload_n dX10_setting_27 rfl rfl ?_
        refine rw_bipush (v := -2) dX10_setting_28 (by decide) ?_
        have key : RW w 5 0 0 0 0 cX10_setting RX10 2 (some .int) (bw_Z w (bw_pi (out.1) out.2)) 44 [] [.int (if v1 = (-2 : Int32) then q2 93 16 else q2 93 17)] q2 := by
          have h := Option.some.inj h
          subst h
          exact rw_iret dX10_setting_44 ⟨rfl, rfl⟩
        refine rw_icmp_ne (tgt := 40) dX10_setting_30 (by decide) (fun c7 => ?_) (fun c7 => ?_)
        · refine rw_aload_n dX10_setting_40 rfl rfl ?_
          refine rw_get dX10_setting_41 fl_RX10_219 (sh_m w) (bw_kl (by decide)) rfl ?_
          simp only [if_neg c7] at key
          exact rw_sub rw_lz key
        · refine rw_aload_n dX10_setting_33 rfl rfl ?_
          refine rw_get dX10_setting_34 fl_RX10_141 (sh_m w) (bw_kl (by decide)) rfl ?_
          refine rw_goto (tgt := 44) dX10_setting_37 (by decide) ?_
          simp only [if_pos c7] at key
          exact rw_sub rw_lz key
    · have h := bw_if c3 h
      refine rw_ldc dX10_setting_20 cn_RX10_145 ?_
      have h := Option.some.inj h
      subst h
      exact rw_iret dX10_setting_22 ⟨rfl, rfl⟩
  · have h := bw_if c1 h
    refine rw_ldc dX10_setting_6 cn_RX10_125 ?_
    have h := Option.some.inj h
    subst h
    exact rw_iret dX10_setting_8 ⟨rfl, rfl⟩
set_option maxRecDepth 20000 in
set_option maxHeartbeats 1000000 in
theorem th_X10_thickOf_L9 {w : WE} {M : Mem} {v1 : Int32} {out : Int32} : ∀ (n : Nat) (v2 : Int32) (v3 : Int32), f_X10_thickOf_L9 M v1 n v2 v3 = some out → RW w 0 0 0 0 0 cX10_thickOf RX10 4 (some .int) (bw_Z w (bw_pi (out) M)) 9 [(0, .ref (bw_ad w 93)), (1, .int v1), (2, .int v2), (3, .int v3)] [] M := by
  intro n
  induction n with
  | zero => intro v2 v3 h; cases h
  | succ n ih =>
    intro v2 v3 h
    rw [f_X10_thickOf_L9] at h
    refine rw_iload_n dX10_thickOf_9 rfl rfl ?_
    refine rw_aload_n dX10_thickOf_10 rfl rfl ?_
    refine rw_get dX10_thickOf_11 fl_RX10_44 (sh_m w) (bw_kl (by decide)) rfl ?_
    refine rw_iload_n dX10_thickOf_14 rfl rfl ?_
    refine rw_iconst (v := 1) dX10_thickOf_15 (by decide) ?_
    refine rw_iadd dX10_thickOf_16 ?_
    obtain ⟨g2, h⟩ := bw_gd h
    refine rw_iald dX10_thickOf_17 (sh_m_starts w) (bw_kl (by decide)) (bw_in g2) ?_
    refine rw_icmp_ge (tgt := 36) dX10_thickOf_18 (by decide) (fun c3 => ?_) (fun c3 => ?_)
    · have h := bw_it c3 h
      refine rw_iload_n dX10_thickOf_36 rfl rfl ?_
      have h := Option.some.inj h
      subst h
      exact rw_iret dX10_thickOf_37 ⟨rfl, rfl⟩
    · have h := bw_if c3 h
      refine rw_iload_n dX10_thickOf_21 rfl rfl ?_
      refine rw_aload_n dX10_thickOf_22 rfl rfl ?_
      refine rw_get dX10_thickOf_23 fl_RX10_22 (sh_m w) (bw_kl (by decide)) rfl ?_
      refine rw_iload_n dX10_thickOf_26 rfl rfl ?_
      obtain ⟨g4, h⟩ := bw_gd h
      refine rw_iald dX10_thickOf_27 (sh_m_thicks w) (bw_kl (by decide)) (bw_in g4) ?_
      refine rw_iadd dX10_thickOf_28 ?_
      refine rw_istore_n dX10_thickOf_29 rfl (by decide) ?_
      refine rw_inc dX10_thickOf_30 rfl (by decide) ?_
      refine rw_goto (tgt := 9) dX10_thickOf_33 (by decide) ?_
      exact rw_sub (rw_lc rfl (rw_lc rfl (rw_lc rfl (rw_lc rfl rw_lz)))) (ih (v2 + (M 98 v3.toNatClampNeg)) (v3 + 1) h)
set_option maxRecDepth 20000 in
set_option maxHeartbeats 1000000 in
theorem ct_X10_thickOf {w : WE} {M : Mem} {v1 : Int32} {out : Int32} (h : f_X10_thickOf M v1 = some out) : Ct w 0 yX10_thickOf cX10_thickOf 4 (some .int) [.ref (bw_ad w 93), .int v1] M (bw_pi (out) M) := by
  refine Ct.of (own := RX10) rfl (by decide) (by intro v hv; simp only [List.mem_cons, List.not_mem_nil, or_false] at hv; rcases hv with rfl | rfl <;> first | rfl | exact bw_cat_rf _) (Nat.le_of_ble_eq_true rfl) ?_
  unfold f_X10_thickOf at h
  show RW w 0 0 0 0 0 cX10_thickOf RX10 4 (some .int) (bw_Z w (bw_pi (out) M)) 0 [(0, .ref (bw_ad w 93)), (1, .int v1)] [] M
  refine rw_iconst (v := 0) dX10_thickOf_0 (by decide) ?_
  refine rw_istore_n dX10_thickOf_1 rfl (by decide) ?_
  refine rw_aload_n dX10_thickOf_2 rfl rfl ?_
  refine rw_get dX10_thickOf_3 fl_RX10_44 (sh_m w) (bw_kl (by decide)) rfl ?_
  refine rw_iload_n dX10_thickOf_6 rfl rfl ?_
  obtain ⟨g1, h⟩ := bw_gd h
  refine rw_iald dX10_thickOf_7 (sh_m_starts w) (bw_kl (by decide)) (bw_in g1) ?_
  refine rw_istore_n dX10_thickOf_8 rfl (by decide) ?_
  exact rw_sub (rw_lc rfl (rw_lc rfl (rw_lc rfl (rw_lc rfl rw_lz)))) (th_X10_thickOf_L9 bw_fu (0 : Int32) (M 105 v1.toNatClampNeg) h)
set_option maxRecDepth 20000 in
set_option maxHeartbeats 1000000 in
theorem th_X10_tallOf_L9 {w : WE} {M : Mem} {v1 : Int32} {out : Int32} : ∀ (n : Nat) (v2 : Int32) (v3 : Int32), f_X10_tallOf_L9 M v1 n v2 v3 = some out → RW w 0 0 0 0 0 cX10_tallOf RX10 4 (some .int) (bw_Z w (bw_pi (out) M)) 9 [(0, .ref (bw_ad w 93)), (1, .int v1), (2, .int v2), (3, .int v3)] [] M := by
  intro n
  induction n with
  | zero => intro v2 v3 h; cases h
  | succ n ih =>
    intro v2 v3 h
    rw [f_X10_tallOf_L9] at h
    refine rw_iload_n dX10_tallOf_9 rfl rfl ?_
    refine rw_aload_n dX10_tallOf_10 rfl rfl ?_
    refine rw_get dX10_tallOf_11 fl_RX10_44 (sh_m w) (bw_kl (by decide)) rfl ?_
    refine rw_iload_n dX10_tallOf_14 rfl rfl ?_
    refine rw_iconst (v := 1) dX10_tallOf_15 (by decide) ?_
    refine rw_iadd dX10_tallOf_16 ?_
    obtain ⟨g2, h⟩ := bw_gd h
    refine rw_iald dX10_tallOf_17 (sh_m_starts w) (bw_kl (by decide)) (bw_in g2) ?_
    refine rw_icmp_ge (tgt := 48) dX10_tallOf_18 (by decide) (fun c3 => ?_) (fun c3 => ?_)
    · have h := bw_it c3 h
      refine rw_iload_n dX10_tallOf_48 rfl rfl ?_
      have h := Option.some.inj h
      subst h
      exact rw_iret dX10_tallOf_49 ⟨rfl, rfl⟩
    · have h := bw_if c3 h
      refine rw_aload_n dX10_tallOf_21 rfl rfl ?_
      refine rw_get dX10_tallOf_22 fl_RX10_19 (sh_m w) (bw_kl (by decide)) rfl ?_
      refine rw_iload_n dX10_tallOf_25 rfl rfl ?_
      obtain ⟨g4, h⟩ := bw_gd h
      refine rw_iald dX10_tallOf_26 (sh_m_heights w) (bw_kl (by decide)) (bw_in g4) ?_
      refine rw_iload_n dX10_tallOf_27 rfl rfl ?_
      have key : RW w 0 0 0 0 0 cX10_tallOf RX10 4 (some .int) (bw_Z w (bw_pi (out) M)) 41 [(0, .ref (bw_ad w 93)), (1, .int v1), (3, .int v3)] [.int (if (M 97 v3.toNatClampNeg) ≤ v2 then v2 else M 97 v3.toNatClampNeg)] M := by
        obtain ⟨x6, hx6, h⟩ := bw_mlE h
        refine rw_ti hx6 ?_
        refine rw_istore_n dX10_tallOf_41 rfl (by decide) ?_
        refine rw_inc dX10_tallOf_42 rfl (by decide) ?_
        refine rw_goto (tgt := 9) dX10_tallOf_45 (by decide) ?_
        exact rw_sub (rw_lc rfl (rw_lc rfl (rw_lc rfl (rw_lc rfl rw_lz)))) (ih x6 (v3 + 1) h)
      refine rw_icmp_le (tgt := 40) dX10_tallOf_28 (by decide) (fun c5 => ?_) (fun c5 => ?_)
      · refine rw_iload_n dX10_tallOf_40 rfl rfl ?_
        simp only [if_pos c5] at key
        exact rw_sub (rw_lc rfl (rw_lc rfl (rw_lc rfl rw_lz))) key
      · refine rw_aload_n dX10_tallOf_31 rfl rfl ?_
        refine rw_get dX10_tallOf_32 fl_RX10_19 (sh_m w) (bw_kl (by decide)) rfl ?_
        refine rw_iload_n dX10_tallOf_35 rfl rfl ?_
        refine rw_iald dX10_tallOf_36 (sh_m_heights w) (bw_kl (by decide)) (bw_in g4) ?_
        refine rw_goto (tgt := 41) dX10_tallOf_37 (by decide) ?_
        simp only [if_neg c5] at key
        exact rw_sub (rw_lc rfl (rw_lc rfl (rw_lc rfl rw_lz))) key
set_option maxRecDepth 20000 in
set_option maxHeartbeats 1000000 in
theorem ct_X10_tallOf {w : WE} {M : Mem} {v1 : Int32} {out : Int32} (h : f_X10_tallOf M v1 = some out) : Ct w 0 yX10_tallOf cX10_tallOf 4 (some .int) [.ref (bw_ad w 93), .int v1] M (bw_pi (out) M) := by
  refine Ct.of (own := RX10) rfl (by decide) (by intro v hv; simp only [List.mem_cons, List.not_mem_nil, or_false] at hv; rcases hv with rfl | rfl <;> first | rfl | exact bw_cat_rf _) (Nat.le_of_ble_eq_true rfl) ?_
  unfold f_X10_tallOf at h
  show RW w 0 0 0 0 0 cX10_tallOf RX10 4 (some .int) (bw_Z w (bw_pi (out) M)) 0 [(0, .ref (bw_ad w 93)), (1, .int v1)] [] M
  refine rw_iconst (v := 0) dX10_tallOf_0 (by decide) ?_
  refine rw_istore_n dX10_tallOf_1 rfl (by decide) ?_
  refine rw_aload_n dX10_tallOf_2 rfl rfl ?_
  refine rw_get dX10_tallOf_3 fl_RX10_44 (sh_m w) (bw_kl (by decide)) rfl ?_
  refine rw_iload_n dX10_tallOf_6 rfl rfl ?_
  obtain ⟨g1, h⟩ := bw_gd h
  refine rw_iald dX10_tallOf_7 (sh_m_starts w) (bw_kl (by decide)) (bw_in g1) ?_
  refine rw_istore_n dX10_tallOf_8 rfl (by decide) ?_
  exact rw_sub (rw_lc rfl (rw_lc rfl (rw_lc rfl (rw_lc rfl rw_lz)))) (th_X10_tallOf_L9 bw_fu (0 : Int32) (M 105 v1.toNatClampNeg) h)
set_option maxRecDepth 20000 in
set_option maxHeartbeats 1000000 in
theorem ct_X10_line {w : WE} {M : Mem} {v1 : Int32} {v2 : Int32} {out : Int32 × Mem} (h : f_X10_line M v1 v2 = some out) : Ct w 5 yX10_line cX10_line 4 (some .int) [.ref (bw_ad w 93), .int v1, .int v2] M (bw_pi (out.1) out.2) := by
  refine Ct.of (own := RX10) rfl (by decide) (by intro v hv; simp only [List.mem_cons, List.not_mem_nil, or_false] at hv; rcases hv with rfl | rfl | rfl <;> first | rfl | exact bw_cat_rf _) (Nat.le_of_ble_eq_true rfl) ?_
  unfold f_X10_line at h
  show RW w 5 0 0 0 0 cX10_line RX10 4 (some .int) (bw_Z w (bw_pi (out.1) out.2)) 0 [(0, .ref (bw_ad w 93)), (1, .int v1), (2, .int v2)] [] M
  refine rw_iload_n dX10_line_0 rfl rfl ?_
  refine rw_if_lt (tgt := 13) dX10_line_1 (by decide) (fun c1 => ?_) (fun c1 => ?_)
  · have h := bw_it c1 h
    refine rw_ldc dX10_line_13 cn_RX10_125 ?_
    have h := Option.some.inj h
    subst h
    exact rw_iret dX10_line_15 ⟨rfl, rfl⟩
  · have h := bw_if c1 h
    refine rw_iload_n dX10_line_4 rfl rfl ?_
    refine rw_iconst (v := 0) dX10_line_5 (by decide) ?_
    refine rw_iconst (v := 4) dX10_line_6 (by decide) ?_
    refine rw_callS3 dX10_line_7 ln_RX10_117 ms_X10_in (ct_X10_in rfl) (Nat.le_of_ble_eq_true rfl) (Nat.le_of_ble_eq_true rfl) (bw_kkz (fun z2 => ?_))
    refine rw_if_ne (tgt := 16) dX10_line_10 (by decide) (fun c3 => ?_) (fun c3 => ?_)
    · have h := bw_if c3 h
      refine rw_aload_n dX10_line_16 rfl rfl ?_
      obtain ⟨q4, hq4, h⟩ := bw_bd h
      refine rw_callV0 dX10_line_17 ln_RX10_138 mv_X10_settles (sh_m w) (bw_kl (by decide)) (ct_X10_settles hq4) (Nat.le_of_ble_eq_true rfl) (Nat.le_of_ble_eq_true rfl) (bw_kkv ?_)
      refine rw_aload_n dX10_line_20 rfl rfl ?_
      refine rw_get dX10_line_21 fl_RX10_141 (sh_m w) (bw_kl (by decide)) rfl ?_
      refine rw_if_lt (tgt := 35) dX10_line_24 (by decide) (fun c5 => ?_) (fun c5 => ?_)
      · have h := bw_it c5 h
        refine rw_ldc dX10_line_35 cn_RX10_145 ?_
        have h := Option.some.inj h
        subst h
        exact rw_iret dX10_line_37 ⟨rfl, rfl⟩
      · have h := bw_if c5 h
        refine rw_iload_n dX10_line_27 rfl rfl ?_
        refine rw_aload_n dX10_line_28 rfl rfl ?_
        refine rw_get dX10_line_29 fl_RX10_219 (sh_m w) (bw_kl (by decide)) rfl ?_
        refine rw_icmp_lt (tgt := 38) dX10_line_32 (by decide) (fun c6 => ?_) (fun c6 => ?_)
        · have h := bw_it c6 h
          refine rw_aload_n dX10_line_38 rfl rfl ?_
          refine rw_get dX10_line_39 fl_RX10_44 (sh_m w) (bw_kl (by decide)) rfl ?_
          refine rw_iload_n dX10_line_42 rfl rfl ?_
          refine rw_iconst (v := 1) dX10_line_43 (by decide) ?_
          refine rw_iadd dX10_line_44 ?_
          obtain ⟨g7, h⟩ := bw_gd h
          refine rw_iald dX10_line_45 (sh_m_starts w) (bw_kl (by decide)) (bw_in g7) ?_
          refine rw_aload_n dX10_line_46 rfl rfl ?_
          refine rw_get dX10_line_47 fl_RX10_44 (sh_m w) (bw_kl (by decide)) rfl ?_
          refine rw_iload_n dX10_line_50 rfl rfl ?_
          obtain ⟨g8, h⟩ := bw_gd h
          refine rw_iald dX10_line_51 (sh_m_starts w) (bw_kl (by decide)) (bw_in g8) ?_
          refine rw_isub dX10_line_52 ?_
          obtain ⟨x9, hx9, h⟩ := bw_mlE h
          refine rw_ti hx9 ?_
          refine rw_istore_n dX10_line_53 rfl (by decide) ?_
          refine rw_iload_n dX10_line_54 rfl rfl ?_
          refine rw_case (0 : Int32) (fun c10 => ?_) (fun c10 => ?_)
          · have h := bw_it c10 h
            refine rw_tabK (tgt := 84) dX10_line_55 c10 (by decide) (by decide) rfl (by decide) ?_
            refine rw_iload_n dX10_line_84 rfl rfl ?_
            have h := Option.some.inj h
            subst h
            exact rw_iret dX10_line_85 ⟨rfl, rfl⟩
          · have h := bw_if c10 h
            refine rw_case (1 : Int32) (fun c11 => ?_) (fun c11 => ?_)
            · have h := bw_it c11 h
              refine rw_tabK (tgt := 86) dX10_line_55 c11 (by decide) (by decide) rfl (by decide) ?_
              refine rw_aload_n dX10_line_86 rfl rfl ?_
              refine rw_iload_n dX10_line_87 rfl rfl ?_
              obtain ⟨q12, hq12, h⟩ := bw_bd h
              refine rw_callV1 dX10_line_88 ln_RX10_234 mv_X10_thickOf (sh_m w) (bw_kl (by decide)) (ct_X10_thickOf hq12) (Nat.le_of_ble_eq_true rfl) (Nat.le_of_ble_eq_true rfl) (bw_kki ?_)
              have h := Option.some.inj h
              subst h
              exact rw_iret dX10_line_91 ⟨rfl, rfl⟩
            · have h := bw_if c11 h
              refine rw_case (2 : Int32) (fun c13 => ?_) (fun c13 => ?_)
              · have h := bw_it c13 h
                refine rw_tabK (tgt := 92) dX10_line_55 c13 (by decide) (by decide) rfl (by decide) ?_
                refine rw_aload_n dX10_line_92 rfl rfl ?_
                refine rw_iload_n dX10_line_93 rfl rfl ?_
                obtain ⟨q14, hq14, h⟩ := bw_bd h
                refine rw_callV1 dX10_line_94 ln_RX10_237 mv_X10_tallOf (sh_m w) (bw_kl (by decide)) (ct_X10_tallOf hq14) (Nat.le_of_ble_eq_true rfl) (Nat.le_of_ble_eq_true rfl) (bw_kki ?_)
                have h := Option.some.inj h
                subst h
                exact rw_iret dX10_line_97 ⟨rfl, rfl⟩
              · have h := bw_if c13 h
                refine rw_case (3 : Int32) (fun c15 => ?_) (fun c15 => ?_)
                · have h := bw_it c15 h
                  refine rw_tabK (tgt := 98) dX10_line_55 c15 (by decide) (by decide) rfl (by decide) ?_
                  refine rw_aload_n dX10_line_98 rfl rfl ?_
                  refine rw_aload_n dX10_line_99 rfl rfl ?_
                  refine rw_iload_n dX10_line_100 rfl rfl ?_
                  obtain ⟨q16, hq16, h⟩ := bw_bd h
                  refine rw_callV1 dX10_line_101 ln_RX10_237 mv_X10_tallOf (sh_m w) (bw_kl (by decide)) (ct_X10_tallOf hq16) (Nat.le_of_ble_eq_true rfl) (Nat.le_of_ble_eq_true rfl) (bw_kki ?_)
                  obtain ⟨q17, hq17, h⟩ := bw_bd h
                  refine rw_callV1 dX10_line_104 ln_RX10_213 mv_X10_setOf (sh_m w) (bw_kl (by decide)) (ct_X10_setOf hq17) (Nat.le_of_ble_eq_true rfl) (Nat.le_of_ble_eq_true rfl) (bw_kki ?_)
                  have h := Option.some.inj h
                  subst h
                  exact rw_iret dX10_line_107 ⟨rfl, rfl⟩
                · have h := bw_if c15 h
                  refine rw_tabD (tgt := 108) dX10_line_55 (by have := lv_neT (a := 0) c10 (by decide); have := lv_neT (a := 1) c11 (by decide); have := lv_neT (a := 2) c13 (by decide); have := lv_neT (a := 3) c15 (by decide); omega) (by decide) ?_
                  refine rw_aload_n dX10_line_108 rfl rfl ?_
                  refine rw_aload_n dX10_line_109 rfl rfl ?_
                  refine rw_aload_n dX10_line_110 rfl rfl ?_
                  refine rw_iload_n dX10_line_111 rfl rfl ?_
                  obtain ⟨q18, hq18, h⟩ := bw_bd h
                  refine rw_callV1 dX10_line_112 ln_RX10_237 mv_X10_tallOf (sh_m w) (bw_kl (by decide)) (ct_X10_tallOf hq18) (Nat.le_of_ble_eq_true rfl) (Nat.le_of_ble_eq_true rfl) (bw_kki ?_)
                  obtain ⟨q19, hq19, h⟩ := bw_bd h
                  refine rw_callV1 dX10_line_115 ln_RX10_213 mv_X10_setOf (sh_m w) (bw_kl (by decide)) (ct_X10_setOf hq19) (Nat.le_of_ble_eq_true rfl) (Nat.le_of_ble_eq_true rfl) (bw_kki ?_)
                  refine rw_iload_n dX10_line_118 rfl rfl ?_
                  obtain ⟨q20, hq20, h⟩ := bw_bd h
                  refine rw_callV2 dX10_line_119 ln_RX10_216 mv_X10_priceOf (sh_m w) (bw_kl (by decide)) (ct_X10_priceOf hq20) (Nat.le_of_ble_eq_true rfl) (Nat.le_of_ble_eq_true rfl) (bw_kki ?_)
                  have h := Option.some.inj h
                  subst h
                  exact rw_iret dX10_line_122 ⟨rfl, rfl⟩
        · have h := bw_if c6 h
          refine rw_ldc dX10_line_35 cn_RX10_145 ?_
          have h := Option.some.inj h
          subst h
          exact rw_iret dX10_line_37 ⟨rfl, rfl⟩
    · have h := bw_it c3 h
      refine rw_ldc dX10_line_13 cn_RX10_125 ?_
      have h := Option.some.inj h
      subst h
      exact rw_iret dX10_line_15 ⟨rfl, rfl⟩
set_option maxRecDepth 20000 in
set_option maxHeartbeats 1000000 in
theorem th_X10_allow_L15 {w : WE} {M : Mem} {v1 : Int32} {out : Int32 × Mem} : ∀ (n : Nat) (v2 : Int32), f_X10_allow_L15 M v1 n v2 = some out → RW w 1 0 0 0 0 cX10_allow RX10 3 (some .int) (bw_Z w (bw_pi (out.1) out.2)) 15 [(0, .ref (bw_ad w 93)), (1, .int v1), (2, .int v2)] [] M := by
  intro n
  induction n with
  | zero => intro v2 h; cases h
  | succ n ih =>
    intro v2 h
    rw [f_X10_allow_L15] at h
    refine rw_iload_n dX10_allow_15 rfl rfl ?_
    refine rw_aload_n dX10_allow_16 rfl rfl ?_
    refine rw_get dX10_allow_17 fl_RX10_9 (sh_m w) (bw_kl (by decide)) rfl ?_
    refine rw_bipush (v := 7) dX10_allow_20 (by decide) ?_
    refine rw_iald dX10_allow_22 (sh_m_now w) (bw_kl (by decide)) (bw_in (show bw_ib (7 : Int32) 1530 = true by decide)) ?_
    refine rw_icmp_ge (tgt := 48) dX10_allow_23 (by decide) (fun c3 => ?_) (fun c3 => ?_)
    · have h := bw_it c3 h
      refine rw_aload_n dX10_allow_48 rfl rfl ?_
      refine rw_get dX10_allow_49 fl_RX10_9 (sh_m w) (bw_kl (by decide)) rfl ?_
      refine rw_bipush (v := 7) dX10_allow_52 (by decide) ?_
      refine rw_iald dX10_allow_54 (sh_m_now w) (bw_kl (by decide)) (bw_in (show bw_ib (7 : Int32) 1530 = true by decide)) ?_
      refine rw_bipush (v := 6) dX10_allow_55 (by decide) ?_
      refine rw_icmp_ne (tgt := 63) dX10_allow_57 (by decide) (fun c4 => ?_) (fun c4 => ?_)
      · have h := bw_if c4 h
        refine rw_aload_n dX10_allow_63 rfl rfl ?_
        refine rw_get dX10_allow_64 fl_RX10_9 (sh_m w) (bw_kl (by decide)) rfl ?_
        refine rw_bipush (v := 8) dX10_allow_67 (by decide) ?_
        refine rw_aload_n dX10_allow_69 rfl rfl ?_
        refine rw_get dX10_allow_70 fl_RX10_9 (sh_m w) (bw_kl (by decide)) rfl ?_
        refine rw_bipush (v := 7) dX10_allow_73 (by decide) ?_
        refine rw_iald dX10_allow_75 (sh_m_now w) (bw_kl (by decide)) (bw_in (show bw_ib (7 : Int32) 1530 = true by decide)) ?_
        refine rw_iadd dX10_allow_76 ?_
        refine rw_iload_n dX10_allow_77 rfl rfl ?_
        obtain ⟨g5, h⟩ := bw_gd h
        refine rw_iast dX10_allow_78 (sh_m_now w) (bw_kl (by decide)) (bw_in g5) ?_
        obtain ⟨M6, hM6, h⟩ := bw_mlE h
        refine rw_m hM6.symm ?_
        refine rw_aload_n dX10_allow_79 rfl rfl ?_
        refine rw_get dX10_allow_80 fl_RX10_9 (sh_m w) (bw_kl (by decide)) rfl ?_
        refine rw_bipush (v := 7) dX10_allow_83 (by decide) ?_
        refine rw_dup2 dX10_allow_85 rfl rfl ?_
        refine rw_iald dX10_allow_86 (sh_m_now w) (bw_kl (by decide)) (bw_in (show bw_ib (7 : Int32) 1530 = true by decide)) ?_
        refine rw_iconst (v := 1) dX10_allow_87 (by decide) ?_
        refine rw_iadd dX10_allow_88 ?_
        refine rw_iast dX10_allow_89 (sh_m_now w) (bw_kl (by decide)) (bw_in (show bw_ib (7 : Int32) 1530 = true by decide)) ?_
        obtain ⟨M7, hM7, h⟩ := bw_mlE h
        refine rw_m hM7.symm ?_
        refine rw_aload_n dX10_allow_90 rfl rfl ?_
        refine rw_get dX10_allow_91 fl_RX10_9 (sh_m w) (bw_kl (by decide)) rfl ?_
        refine rw_bipush (v := 7) dX10_allow_94 (by decide) ?_
        refine rw_iald dX10_allow_96 (sh_m_now w) (bw_kl (by decide)) (bw_in (show bw_ib (7 : Int32) 1530 = true by decide)) ?_
        have h := Option.some.inj h
        subst h
        exact rw_iret dX10_allow_97 ⟨rfl, rfl⟩
      · have h := bw_it c4 h
        refine rw_ldc dX10_allow_60 cn_RX10_126 ?_
        have h := Option.some.inj h
        subst h
        exact rw_iret dX10_allow_62 ⟨rfl, rfl⟩
    · have h := bw_if c3 h
      refine rw_aload_n dX10_allow_26 rfl rfl ?_
      refine rw_get dX10_allow_27 fl_RX10_9 (sh_m w) (bw_kl (by decide)) rfl ?_
      refine rw_bipush (v := 8) dX10_allow_30 (by decide) ?_
      refine rw_iload_n dX10_allow_32 rfl rfl ?_
      refine rw_iadd dX10_allow_33 ?_
      obtain ⟨g8, h⟩ := bw_gd h
      refine rw_iald dX10_allow_34 (sh_m_now w) (bw_kl (by decide)) (bw_in g8) ?_
      refine rw_iload_n dX10_allow_35 rfl rfl ?_
      refine rw_icmp_ne (tgt := 42) dX10_allow_36 (by decide) (fun c9 => ?_) (fun c9 => ?_)
      · have h := bw_if c9 h
        refine rw_inc dX10_allow_42 rfl (by decide) ?_
        refine rw_goto (tgt := 15) dX10_allow_45 (by decide) ?_
        exact rw_sub (rw_lc rfl (rw_lc rfl (rw_lc rfl rw_lz))) (ih (v2 + 1) h)
      · have h := bw_it c9 h
        refine rw_ldc dX10_allow_39 cn_RX10_240 ?_
        have h := Option.some.inj h
        subst h
        exact rw_iret dX10_allow_41 ⟨rfl, rfl⟩
set_option maxRecDepth 20000 in
set_option maxHeartbeats 1000000 in
theorem ct_X10_allow {w : WE} {M : Mem} {v1 : Int32} {out : Int32 × Mem} (h : f_X10_allow M v1 = some out) : Ct w 1 yX10_allow cX10_allow 3 (some .int) [.ref (bw_ad w 93), .int v1] M (bw_pi (out.1) out.2) := by
  refine Ct.of (own := RX10) rfl (by decide) (by intro v hv; simp only [List.mem_cons, List.not_mem_nil, or_false] at hv; rcases hv with rfl | rfl <;> first | rfl | exact bw_cat_rf _) (Nat.le_of_ble_eq_true rfl) ?_
  unfold f_X10_allow at h
  show RW w 1 0 0 0 0 cX10_allow RX10 3 (some .int) (bw_Z w (bw_pi (out.1) out.2)) 0 [(0, .ref (bw_ad w 93)), (1, .int v1)] [] M
  refine rw_iload_n dX10_allow_0 rfl rfl ?_
  refine rw_iconst (v := 1) dX10_allow_1 (by decide) ?_
  refine rw_bipush (v := 99) dX10_allow_2 (by decide) ?_
  refine rw_callS3 dX10_allow_4 ln_RX10_117 ms_X10_in (ct_X10_in rfl) (Nat.le_of_ble_eq_true rfl) (Nat.le_of_ble_eq_true rfl) (bw_kkz (fun z1 => ?_))
  refine rw_if_ne (tgt := 13) dX10_allow_7 (by decide) (fun c2 => ?_) (fun c2 => ?_)
  · have h := bw_if c2 h
    refine rw_iconst (v := 0) dX10_allow_13 (by decide) ?_
    refine rw_istore_n dX10_allow_14 rfl (by decide) ?_
    exact rw_sub (rw_lc rfl (rw_lc rfl (rw_lc rfl rw_lz))) (th_X10_allow_L15 bw_fu (0 : Int32) h)
  · have h := bw_it c2 h
    refine rw_ldc dX10_allow_10 cn_RX10_125 ?_
    have h := Option.some.inj h
    subst h
    exact rw_iret dX10_allow_12 ⟨rfl, rfl⟩
set_option maxRecDepth 20000 in
set_option maxHeartbeats 1000000 in
theorem ct_X10_clear {w : WE} {M : Mem} {out : Int32 × Mem} (h : f_X10_clear M = some out) : Ct w 0 yX10_clear cX10_clear 2 (some .int) [.ref (bw_ad w 93)] M (bw_pi (out.1) out.2) := by
  refine Ct.of (own := RX10) rfl (by decide) (by intro v hv; rw [List.mem_singleton.mp hv]; first | rfl | exact bw_cat_rf _) (Nat.le_of_ble_eq_true rfl) ?_
  unfold f_X10_clear at h
  show RW w 0 0 0 0 0 cX10_clear RX10 2 (some .int) (bw_Z w (bw_pi (out.1) out.2)) 0 [(0, .ref (bw_ad w 93))] [] M
  refine rw_aload_n dX10_clear_0 rfl rfl ?_
  refine rw_get dX10_clear_1 fl_RX10_9 (sh_m w) (bw_kl (by decide)) rfl ?_
  refine rw_bipush (v := 7) dX10_clear_4 (by decide) ?_
  refine rw_iald dX10_clear_6 (sh_m_now w) (bw_kl (by decide)) (bw_in (show bw_ib (7 : Int32) 1530 = true by decide)) ?_
  refine rw_istore_n dX10_clear_7 rfl (by decide) ?_
  refine rw_aload_n dX10_clear_8 rfl rfl ?_
  refine rw_get dX10_clear_9 fl_RX10_9 (sh_m w) (bw_kl (by decide)) rfl ?_
  refine rw_bipush (v := 7) dX10_clear_12 (by decide) ?_
  refine rw_iconst (v := 0) dX10_clear_14 (by decide) ?_
  refine rw_iast dX10_clear_15 (sh_m_now w) (bw_kl (by decide)) (bw_in (show bw_ib (7 : Int32) 1530 = true by decide)) ?_
  obtain ⟨M1, hM1, h⟩ := bw_mlE h
  refine rw_m hM1.symm ?_
  refine rw_iload_n dX10_clear_16 rfl rfl ?_
  have h := Option.some.inj h
  subst h
  exact rw_iret dX10_clear_17 ⟨rfl, rfl⟩
set_option maxRecDepth 20000 in
set_option maxHeartbeats 1000000 in
theorem th_X10_findCases_L56 {w : WE} {v1 : Int32} {Z : Option Value → Heap → Prop} {out : Mem} : ∀ (n : Nat) (v2 : Int32) (v3 : Int32) (v4 : Int32) (M : Mem), f_X10_findCases_L56 v1 n v2 v3 v4 M = some out → RW w 2 0 0 0 0 cX10_findCases RX10 9 none Z 316 [(0, .ref (bw_ad w 93)), (1, .int v1)] [] out → RW w 2 0 0 0 0 cX10_findCases RX10 9 none Z 56 [(0, .ref (bw_ad w 93)), (1, .int v1), (2, .int v2), (3, .int v3), (4, .int v4)] [] M := by
  intro n
  induction n with
  | zero => intro v2 v3 v4 M h hk; cases h
  | succ n ih =>
    intro v2 v3 v4 M h hk
    rw [f_X10_findCases_L56] at h
    refine rw_iload dX10_findCases_56 rfl ?_
    refine rw_aload_n dX10_findCases_58 rfl rfl ?_
    refine rw_get dX10_findCases_59 fl_RX10_206 (sh_m w) (bw_kl (by decide)) rfl ?_
    refine rw_icmp_ge (tgt := 316) dX10_findCases_62 (by decide) (fun c5 => ?_) (fun c5 => ?_)
    · have h := bw_it c5 h
      have h := Option.some.inj h
      subst h
      exact rw_sub (rw_lc rfl (rw_lc rfl rw_lz)) hk
    · have h := bw_if c5 h
      refine rw_aload_n dX10_findCases_65 rfl rfl ?_
      refine rw_get dX10_findCases_66 fl_RX10_50 (sh_m w) (bw_kl (by decide)) rfl ?_
      refine rw_iload_n dX10_findCases_69 rfl rfl ?_
      obtain ⟨g6, h⟩ := bw_gd h
      refine rw_iald dX10_findCases_70 (sh_m_used w) (bw_kl (by decide)) (bw_in g6) ?_
      refine rw_if_lt (tgt := 316) dX10_findCases_71 (by decide) (fun c7 => ?_) (fun c7 => ?_)
      · have h := bw_it c7 h
        have h := Option.some.inj h
        subst h
        exact rw_sub (rw_lc rfl (rw_lc rfl rw_lz)) hk
      · have h := bw_if c7 h
        refine rw_iload_n dX10_findCases_74 rfl rfl ?_
        refine rw_aload_n dX10_findCases_75 rfl rfl ?_
        refine rw_get dX10_findCases_76 fl_RX10_22 (sh_m w) (bw_kl (by decide)) rfl ?_
        refine rw_iload dX10_findCases_79 rfl ?_
        obtain ⟨g8, h⟩ := bw_gd h
        refine rw_iald dX10_findCases_81 (sh_m_thicks w) (bw_kl (by decide)) (bw_in g8) ?_
        refine rw_iadd dX10_findCases_82 ?_
        refine rw_istore_n dX10_findCases_83 rfl (by decide) ?_
        refine rw_aload_n dX10_findCases_84 rfl rfl ?_
        refine rw_get dX10_findCases_85 fl_RX10_19 (sh_m w) (bw_kl (by decide)) rfl ?_
        refine rw_iload dX10_findCases_88 rfl ?_
        refine rw_iald dX10_findCases_90 (sh_m_heights w) (bw_kl (by decide)) (bw_in g8) ?_
        refine rw_iload_n dX10_findCases_91 rfl rfl ?_
        have key : RW w 2 0 0 0 0 cX10_findCases RX10 9 none Z 106 [(0, .ref (bw_ad w 93)), (1, .int v1), (2, .int (v2 + (M 98 v4.toNatClampNeg))), (4, .int v4)] [.int (if (M 97 v4.toNatClampNeg) ≤ v3 then v3 else M 97 v4.toNatClampNeg)] M := by
          obtain ⟨x10, hx10, h⟩ := bw_mlE h
          refine rw_ti hx10 ?_
          refine rw_istore_n dX10_findCases_106 rfl (by decide) ?_
          refine rw_iload_n dX10_findCases_107 rfl rfl ?_
          refine rw_aload_n dX10_findCases_108 rfl rfl ?_
          refine rw_get dX10_findCases_109 fl_RX10_191 (sh_m w) (bw_kl (by decide)) rfl ?_
          refine rw_icmp_le (tgt := 118) dX10_findCases_112 (by decide) (fun c11 => ?_) (fun c11 => ?_)
          · have h := bw_it c11 h
            refine rw_aload_n dX10_findCases_118 rfl rfl ?_
            refine rw_iload_n dX10_findCases_119 rfl rfl ?_
            obtain ⟨q12, hq12, h⟩ := bw_bd h
            refine rw_callV1 dX10_findCases_120 ln_RX10_213 mv_X10_setOf (sh_m w) (bw_kl (by decide)) (ct_X10_setOf hq12) (Nat.le_of_ble_eq_true rfl) (Nat.le_of_ble_eq_true rfl) (bw_kki ?_)
            refine rw_istore dX10_findCases_123 (by decide) ?_
            refine rw_iload dX10_findCases_125 rfl ?_
            refine rw_if_lt (tgt := 310) dX10_findCases_127 (by decide) (fun c13 => ?_) (fun c13 => ?_)
            · have h := bw_it c13 h
              refine rw_inc dX10_findCases_310 rfl (by decide) ?_
              refine rw_goto (tgt := 56) dX10_findCases_313 (by decide) ?_
              exact rw_sub (rw_lc rfl (rw_lc rfl (rw_lc rfl (rw_lc rfl (rw_lc rfl rw_lz))))) (ih (v2 + (M 98 v4.toNatClampNeg)) x10 (v4 + 1) M h hk)
            · have h := bw_if c13 h
              refine rw_iload dX10_findCases_130 rfl ?_
              refine rw_aload_n dX10_findCases_132 rfl rfl ?_
              refine rw_get dX10_findCases_133 fl_RX10_9 (sh_m w) (bw_kl (by decide)) rfl ?_
              refine rw_iconst (v := 2) dX10_findCases_136 (by decide) ?_
              refine rw_iald dX10_findCases_137 (sh_m_now w) (bw_kl (by decide)) (bw_in (show bw_ib (2 : Int32) 1530 = true by decide)) ?_
              refine rw_iadd dX10_findCases_138 ?_
              refine rw_aload_n dX10_findCases_139 rfl rfl ?_
              refine rw_get dX10_findCases_140 fl_RX10_9 (sh_m w) (bw_kl (by decide)) rfl ?_
              refine rw_iconst (v := 3) dX10_findCases_143 (by decide) ?_
              refine rw_iald dX10_findCases_144 (sh_m_now w) (bw_kl (by decide)) (bw_in (show bw_ib (3 : Int32) 1530 = true by decide)) ?_
              refine rw_icmp_gt (tgt := 310) dX10_findCases_145 (by decide) (fun c14 => ?_) (fun c14 => ?_)
              · have h := bw_it c14 h
                refine rw_inc dX10_findCases_310 rfl (by decide) ?_
                refine rw_goto (tgt := 56) dX10_findCases_313 (by decide) ?_
                exact rw_sub (rw_lc rfl (rw_lc rfl (rw_lc rfl (rw_lc rfl (rw_lc rfl rw_lz))))) (ih (v2 + (M 98 v4.toNatClampNeg)) x10 (v4 + 1) M h hk)
              · have h := bw_if c14 h
                refine rw_aload_n dX10_findCases_148 rfl rfl ?_
                refine rw_get dX10_findCases_149 fl_RX10_25 (sh_m w) (bw_kl (by decide)) rfl ?_
                refine rw_iload dX10_findCases_152 rfl ?_
                refine rw_zald dX10_findCases_154 (sh_m_tied w) (bw_kl (by decide)) (bw_in g8) ?_
                refine rw_if_eq (tgt := 172) dX10_findCases_155 (by decide) (fun c15 => ?_) (fun c15 => ?_)
                · have h := bw_it c15 h
                  refine rw_iload dX10_findCases_172 rfl ?_
                  refine rw_aload_n dX10_findCases_174 rfl rfl ?_
                  refine rw_get dX10_findCases_175 fl_RX10_9 (sh_m w) (bw_kl (by decide)) rfl ?_
                  refine rw_iconst (v := 2) dX10_findCases_178 (by decide) ?_
                  refine rw_iald dX10_findCases_179 (sh_m_now w) (bw_kl (by decide)) (bw_in (show bw_ib (2 : Int32) 1530 = true by decide)) ?_
                  refine rw_iadd dX10_findCases_180 ?_
                  obtain ⟨x16, hx16, h⟩ := bw_mlE h
                  refine rw_ti hx16 ?_
                  refine rw_istore dX10_findCases_181 (by decide) ?_
                  refine rw_aload_n dX10_findCases_183 rfl rfl ?_
                  refine rw_get dX10_findCases_184 fl_RX10_50 (sh_m w) (bw_kl (by decide)) rfl ?_
                  refine rw_iload_n dX10_findCases_187 rfl rfl ?_
                  refine rw_iald dX10_findCases_188 (sh_m_used w) (bw_kl (by decide)) (bw_in g6) ?_
                  have key : RW w 2 0 0 0 0 cX10_findCases RX10 9 none Z 219 [(0, .ref (bw_ad w 93)), (1, .int v1), (2, .int (v2 + (M 98 v4.toNatClampNeg))), (3, .int x10), (4, .int v4), (6, .int x16)] [.int (if (M 107 v1.toNatClampNeg) = 0 then (1 : Int32) else (if ((bw_rem (M 107 v1.toNatClampNeg) (1000 : Int32)) + x16) ≤ (M 94 (3 : Int32).toNatClampNeg) then (0 : Int32) else (1 : Int32)))] M := by
                    obtain ⟨x19, hx19, h⟩ := bw_mlE h
                    refine rw_ti hx19 ?_
                    refine rw_istore dX10_findCases_219 (by decide) ?_
                    refine rw_iload dX10_findCases_221 rfl ?_
                    have key : RW w 2 0 0 0 0 cX10_findCases RX10 9 none Z 259 [(0, .ref (bw_ad w 93)), (1, .int v1), (2, .int (v2 + (M 98 v4.toNatClampNeg))), (3, .int x10), (4, .int v4)] [.int (if x19 = 0 then (M 107 v1.toNatClampNeg) + x16 else ((((M 107 v1.toNatClampNeg) / (1000 : Int32)) * (1000 : Int32)) + (1000 : Int32)) + x16)] M := by
                      obtain ⟨x21, hx21, h⟩ := bw_mlE h
                      refine rw_ti hx21 ?_
                      refine rw_istore dX10_findCases_259 (by decide) ?_
                      refine rw_aload_n dX10_findCases_261 rfl rfl ?_
                      refine rw_get dX10_findCases_262 fl_RX10_50 (sh_m w) (bw_kl (by decide)) rfl ?_
                      refine rw_iload dX10_findCases_265 rfl ?_
                      refine rw_iconst (v := 1) dX10_findCases_267 (by decide) ?_
                      refine rw_iadd dX10_findCases_268 ?_
                      refine rw_aload_n dX10_findCases_269 rfl rfl ?_
                      refine rw_get dX10_findCases_270 fl_RX10_50 (sh_m w) (bw_kl (by decide)) rfl ?_
                      refine rw_iload dX10_findCases_273 rfl ?_
                      refine rw_iconst (v := 1) dX10_findCases_275 (by decide) ?_
                      refine rw_iadd dX10_findCases_276 ?_
                      obtain ⟨g22, h⟩ := bw_gd h
                      refine rw_iald dX10_findCases_277 (sh_m_used w) (bw_kl (by decide)) (bw_in g22) ?_
                      have key : RW w 2 0 0 0 0 cX10_findCases RX10 9 none Z 309 [(0, .ref (bw_ad w 93)), (1, .int v1), (2, .int (v2 + (M 98 v4.toNatClampNeg))), (3, .int x10), (4, .int v4)] [.int (if (M 107 (v4 + (1 : Int32)).toNatClampNeg) < 0 then x21 else (if (M 107 (v4 + (1 : Int32)).toNatClampNeg) ≤ x21 then M 107 (v4 + (1 : Int32)).toNatClampNeg else x21)), .int (v4 + (1 : Int32)), .ref (bw_ad w 107)] M := by
                        refine rw_iast dX10_findCases_309 (sh_m_used w) (bw_kl (by decide)) (bw_in g22) ?_
                        obtain ⟨M25, hM25, h⟩ := bw_mlE h
                        refine rw_m hM25.symm ?_
                        refine rw_inc dX10_findCases_310 rfl (by decide) ?_
                        refine rw_goto (tgt := 56) dX10_findCases_313 (by decide) ?_
                        exact rw_sub (rw_lc rfl (rw_lc rfl (rw_lc rfl (rw_lc rfl (rw_lc rfl rw_lz))))) (ih (v2 + (M 98 v4.toNatClampNeg)) x10 (v4 + 1) M25 h hk)
                      refine rw_if_lt (tgt := 295) dX10_findCases_278 (by decide) (fun c23 => ?_) (fun c23 => ?_)
                      · refine rw_iload dX10_findCases_295 rfl ?_
                        refine rw_goto (tgt := 309) dX10_findCases_297 (by decide) ?_
                        simp only [if_pos c23] at key
                        exact rw_sub (rw_lc rfl (rw_lc rfl (rw_lc rfl (rw_lc rfl (rw_lc rfl rw_lz))))) key
                      · refine rw_iload dX10_findCases_281 rfl ?_
                        refine rw_aload_n dX10_findCases_283 rfl rfl ?_
                        refine rw_get dX10_findCases_284 fl_RX10_50 (sh_m w) (bw_kl (by decide)) rfl ?_
                        refine rw_iload dX10_findCases_287 rfl ?_
                        refine rw_iconst (v := 1) dX10_findCases_289 (by decide) ?_
                        refine rw_iadd dX10_findCases_290 ?_
                        refine rw_iald dX10_findCases_291 (sh_m_used w) (bw_kl (by decide)) (bw_in g22) ?_
                        refine rw_icmp_ge (tgt := 300) dX10_findCases_292 (by decide) (fun c24 => ?_) (fun c24 => ?_)
                        · refine rw_aload_n dX10_findCases_300 rfl rfl ?_
                          refine rw_get dX10_findCases_301 fl_RX10_50 (sh_m w) (bw_kl (by decide)) rfl ?_
                          refine rw_iload dX10_findCases_304 rfl ?_
                          refine rw_iconst (v := 1) dX10_findCases_306 (by decide) ?_
                          refine rw_iadd dX10_findCases_307 ?_
                          refine rw_iald dX10_findCases_308 (sh_m_used w) (bw_kl (by decide)) (bw_in g22) ?_
                          simp only [if_neg c23, if_pos c24] at key
                          exact rw_sub (rw_lc rfl (rw_lc rfl (rw_lc rfl (rw_lc rfl (rw_lc rfl rw_lz))))) key
                        · refine rw_iload dX10_findCases_295 rfl ?_
                          refine rw_goto (tgt := 309) dX10_findCases_297 (by decide) ?_
                          simp only [if_neg c23, if_neg c24] at key
                          exact rw_sub (rw_lc rfl (rw_lc rfl (rw_lc rfl (rw_lc rfl (rw_lc rfl rw_lz))))) key
                    refine rw_if_eq (tgt := 250) dX10_findCases_223 (by decide) (fun c20 => ?_) (fun c20 => ?_)
                    · refine rw_aload_n dX10_findCases_250 rfl rfl ?_
                      refine rw_get dX10_findCases_251 fl_RX10_50 (sh_m w) (bw_kl (by decide)) rfl ?_
                      refine rw_iload_n dX10_findCases_254 rfl rfl ?_
                      refine rw_iald dX10_findCases_255 (sh_m_used w) (bw_kl (by decide)) (bw_in g6) ?_
                      refine rw_iload dX10_findCases_256 rfl ?_
                      refine rw_iadd dX10_findCases_258 ?_
                      simp only [if_pos c20] at key
                      exact rw_sub (rw_lc rfl (rw_lc rfl (rw_lc rfl (rw_lc rfl (rw_lc rfl rw_lz))))) key
                    · refine rw_aload_n dX10_findCases_226 rfl rfl ?_
                      refine rw_get dX10_findCases_227 fl_RX10_50 (sh_m w) (bw_kl (by decide)) rfl ?_
                      refine rw_iload_n dX10_findCases_230 rfl rfl ?_
                      refine rw_iald dX10_findCases_231 (sh_m_used w) (bw_kl (by decide)) (bw_in g6) ?_
                      refine rw_sipush (v := 1000) dX10_findCases_232 (by decide) ?_
                      refine rw_idiv dX10_findCases_235 (by decide) ?_
                      refine rw_sipush (v := 1000) dX10_findCases_236 (by decide) ?_
                      refine rw_imul dX10_findCases_239 ?_
                      refine rw_sipush (v := 1000) dX10_findCases_240 (by decide) ?_
                      refine rw_iadd dX10_findCases_243 ?_
                      refine rw_iload dX10_findCases_244 rfl ?_
                      refine rw_iadd dX10_findCases_246 ?_
                      refine rw_goto (tgt := 259) dX10_findCases_247 (by decide) ?_
                      simp only [if_neg c20] at key
                      exact rw_sub (rw_lc rfl (rw_lc rfl (rw_lc rfl (rw_lc rfl (rw_lc rfl rw_lz))))) key
                  refine rw_if_eq (tgt := 214) dX10_findCases_189 (by decide) (fun c17 => ?_) (fun c17 => ?_)
                  · refine rw_iconst (v := 1) dX10_findCases_214 (by decide) ?_
                    refine rw_goto (tgt := 219) dX10_findCases_215 (by decide) ?_
                    simp only [if_pos c17] at key
                    exact rw_sub (rw_lc rfl (rw_lc rfl (rw_lc rfl (rw_lc rfl (rw_lc rfl (rw_lc rfl rw_lz)))))) key
                  · refine rw_aload_n dX10_findCases_192 rfl rfl ?_
                    refine rw_get dX10_findCases_193 fl_RX10_50 (sh_m w) (bw_kl (by decide)) rfl ?_
                    refine rw_iload_n dX10_findCases_196 rfl rfl ?_
                    refine rw_iald dX10_findCases_197 (sh_m_used w) (bw_kl (by decide)) (bw_in g6) ?_
                    refine rw_sipush (v := 1000) dX10_findCases_198 (by decide) ?_
                    refine rw_irem dX10_findCases_201 (by decide) ?_
                    refine rw_iload dX10_findCases_202 rfl ?_
                    refine rw_iadd dX10_findCases_204 ?_
                    refine rw_aload_n dX10_findCases_205 rfl rfl ?_
                    refine rw_get dX10_findCases_206 fl_RX10_9 (sh_m w) (bw_kl (by decide)) rfl ?_
                    refine rw_iconst (v := 3) dX10_findCases_209 (by decide) ?_
                    refine rw_iald dX10_findCases_210 (sh_m_now w) (bw_kl (by decide)) (bw_in (show bw_ib (3 : Int32) 1530 = true by decide)) ?_
                    refine rw_icmp_le (tgt := 218) dX10_findCases_211 (by decide) (fun c18 => ?_) (fun c18 => ?_)
                    · refine rw_iconst (v := 0) dX10_findCases_218 (by decide) ?_
                      simp only [if_neg c17, if_pos c18] at key
                      exact rw_sub (rw_lc rfl (rw_lc rfl (rw_lc rfl (rw_lc rfl (rw_lc rfl (rw_lc rfl rw_lz)))))) key
                    · refine rw_iconst (v := 1) dX10_findCases_214 (by decide) ?_
                      refine rw_goto (tgt := 219) dX10_findCases_215 (by decide) ?_
                      simp only [if_neg c17, if_neg c18] at key
                      exact rw_sub (rw_lc rfl (rw_lc rfl (rw_lc rfl (rw_lc rfl (rw_lc rfl (rw_lc rfl rw_lz)))))) key
                · have h := bw_if c15 h
                  refine rw_iload dX10_findCases_158 rfl ?_
                  refine rw_aload_n dX10_findCases_160 rfl rfl ?_
                  refine rw_get dX10_findCases_161 fl_RX10_206 (sh_m w) (bw_kl (by decide)) rfl ?_
                  refine rw_iconst (v := 1) dX10_findCases_164 (by decide) ?_
                  refine rw_isub dX10_findCases_165 ?_
                  refine rw_icmp_ge (tgt := 172) dX10_findCases_166 (by decide) (fun c26 => ?_) (fun c26 => ?_)
                  · have h := bw_it c26 h
                    refine rw_iload dX10_findCases_172 rfl ?_
                    refine rw_aload_n dX10_findCases_174 rfl rfl ?_
                    refine rw_get dX10_findCases_175 fl_RX10_9 (sh_m w) (bw_kl (by decide)) rfl ?_
                    refine rw_iconst (v := 2) dX10_findCases_178 (by decide) ?_
                    refine rw_iald dX10_findCases_179 (sh_m_now w) (bw_kl (by decide)) (bw_in (show bw_ib (2 : Int32) 1530 = true by decide)) ?_
                    refine rw_iadd dX10_findCases_180 ?_
                    obtain ⟨x27, hx27, h⟩ := bw_mlE h
                    refine rw_ti hx27 ?_
                    refine rw_istore dX10_findCases_181 (by decide) ?_
                    refine rw_aload_n dX10_findCases_183 rfl rfl ?_
                    refine rw_get dX10_findCases_184 fl_RX10_50 (sh_m w) (bw_kl (by decide)) rfl ?_
                    refine rw_iload_n dX10_findCases_187 rfl rfl ?_
                    refine rw_iald dX10_findCases_188 (sh_m_used w) (bw_kl (by decide)) (bw_in g6) ?_
                    have key : RW w 2 0 0 0 0 cX10_findCases RX10 9 none Z 219 [(0, .ref (bw_ad w 93)), (1, .int v1), (2, .int (v2 + (M 98 v4.toNatClampNeg))), (3, .int x10), (4, .int v4), (6, .int x27)] [.int (if (M 107 v1.toNatClampNeg) = 0 then (1 : Int32) else (if ((bw_rem (M 107 v1.toNatClampNeg) (1000 : Int32)) + x27) ≤ (M 94 (3 : Int32).toNatClampNeg) then (0 : Int32) else (1 : Int32)))] M := by
                      obtain ⟨x30, hx30, h⟩ := bw_mlE h
                      refine rw_ti hx30 ?_
                      refine rw_istore dX10_findCases_219 (by decide) ?_
                      refine rw_iload dX10_findCases_221 rfl ?_
                      have key : RW w 2 0 0 0 0 cX10_findCases RX10 9 none Z 259 [(0, .ref (bw_ad w 93)), (1, .int v1), (2, .int (v2 + (M 98 v4.toNatClampNeg))), (3, .int x10), (4, .int v4)] [.int (if x30 = 0 then (M 107 v1.toNatClampNeg) + x27 else ((((M 107 v1.toNatClampNeg) / (1000 : Int32)) * (1000 : Int32)) + (1000 : Int32)) + x27)] M := by
                        obtain ⟨x32, hx32, h⟩ := bw_mlE h
                        refine rw_ti hx32 ?_
                        refine rw_istore dX10_findCases_259 (by decide) ?_
                        refine rw_aload_n dX10_findCases_261 rfl rfl ?_
                        refine rw_get dX10_findCases_262 fl_RX10_50 (sh_m w) (bw_kl (by decide)) rfl ?_
                        refine rw_iload dX10_findCases_265 rfl ?_
                        refine rw_iconst (v := 1) dX10_findCases_267 (by decide) ?_
                        refine rw_iadd dX10_findCases_268 ?_
                        refine rw_aload_n dX10_findCases_269 rfl rfl ?_
                        refine rw_get dX10_findCases_270 fl_RX10_50 (sh_m w) (bw_kl (by decide)) rfl ?_
                        refine rw_iload dX10_findCases_273 rfl ?_
                        refine rw_iconst (v := 1) dX10_findCases_275 (by decide) ?_
                        refine rw_iadd dX10_findCases_276 ?_
                        obtain ⟨g33, h⟩ := bw_gd h
                        refine rw_iald dX10_findCases_277 (sh_m_used w) (bw_kl (by decide)) (bw_in g33) ?_
                        have key : RW w 2 0 0 0 0 cX10_findCases RX10 9 none Z 309 [(0, .ref (bw_ad w 93)), (1, .int v1), (2, .int (v2 + (M 98 v4.toNatClampNeg))), (3, .int x10), (4, .int v4)] [.int (if (M 107 (v4 + (1 : Int32)).toNatClampNeg) < 0 then x32 else (if (M 107 (v4 + (1 : Int32)).toNatClampNeg) ≤ x32 then M 107 (v4 + (1 : Int32)).toNatClampNeg else x32)), .int (v4 + (1 : Int32)), .ref (bw_ad w 107)] M := by
                          refine rw_iast dX10_findCases_309 (sh_m_used w) (bw_kl (by decide)) (bw_in g33) ?_
                          obtain ⟨M36, hM36, h⟩ := bw_mlE h
                          refine rw_m hM36.symm ?_
                          refine rw_inc dX10_findCases_310 rfl (by decide) ?_
                          refine rw_goto (tgt := 56) dX10_findCases_313 (by decide) ?_
                          exact rw_sub (rw_lc rfl (rw_lc rfl (rw_lc rfl (rw_lc rfl (rw_lc rfl rw_lz))))) (ih (v2 + (M 98 v4.toNatClampNeg)) x10 (v4 + 1) M36 h hk)
                        refine rw_if_lt (tgt := 295) dX10_findCases_278 (by decide) (fun c34 => ?_) (fun c34 => ?_)
                        · refine rw_iload dX10_findCases_295 rfl ?_
                          refine rw_goto (tgt := 309) dX10_findCases_297 (by decide) ?_
                          simp only [if_pos c34] at key
                          exact rw_sub (rw_lc rfl (rw_lc rfl (rw_lc rfl (rw_lc rfl (rw_lc rfl rw_lz))))) key
                        · refine rw_iload dX10_findCases_281 rfl ?_
                          refine rw_aload_n dX10_findCases_283 rfl rfl ?_
                          refine rw_get dX10_findCases_284 fl_RX10_50 (sh_m w) (bw_kl (by decide)) rfl ?_
                          refine rw_iload dX10_findCases_287 rfl ?_
                          refine rw_iconst (v := 1) dX10_findCases_289 (by decide) ?_
                          refine rw_iadd dX10_findCases_290 ?_
                          refine rw_iald dX10_findCases_291 (sh_m_used w) (bw_kl (by decide)) (bw_in g33) ?_
                          refine rw_icmp_ge (tgt := 300) dX10_findCases_292 (by decide) (fun c35 => ?_) (fun c35 => ?_)
                          · refine rw_aload_n dX10_findCases_300 rfl rfl ?_
                            refine rw_get dX10_findCases_301 fl_RX10_50 (sh_m w) (bw_kl (by decide)) rfl ?_
                            refine rw_iload dX10_findCases_304 rfl ?_
                            refine rw_iconst (v := 1) dX10_findCases_306 (by decide) ?_
                            refine rw_iadd dX10_findCases_307 ?_
                            refine rw_iald dX10_findCases_308 (sh_m_used w) (bw_kl (by decide)) (bw_in g33) ?_
                            simp only [if_neg c34, if_pos c35] at key
                            exact rw_sub (rw_lc rfl (rw_lc rfl (rw_lc rfl (rw_lc rfl (rw_lc rfl rw_lz))))) key
                          · refine rw_iload dX10_findCases_295 rfl ?_
                            refine rw_goto (tgt := 309) dX10_findCases_297 (by decide) ?_
                            simp only [if_neg c34, if_neg c35] at key
                            exact rw_sub (rw_lc rfl (rw_lc rfl (rw_lc rfl (rw_lc rfl (rw_lc rfl rw_lz))))) key
                      refine rw_if_eq (tgt := 250) dX10_findCases_223 (by decide) (fun c31 => ?_) (fun c31 => ?_)
                      · refine rw_aload_n dX10_findCases_250 rfl rfl ?_
                        refine rw_get dX10_findCases_251 fl_RX10_50 (sh_m w) (bw_kl (by decide)) rfl ?_
                        refine rw_iload_n dX10_findCases_254 rfl rfl ?_
                        refine rw_iald dX10_findCases_255 (sh_m_used w) (bw_kl (by decide)) (bw_in g6) ?_
                        refine rw_iload dX10_findCases_256 rfl ?_
                        refine rw_iadd dX10_findCases_258 ?_
                        simp only [if_pos c31] at key
                        exact rw_sub (rw_lc rfl (rw_lc rfl (rw_lc rfl (rw_lc rfl (rw_lc rfl rw_lz))))) key
                      · refine rw_aload_n dX10_findCases_226 rfl rfl ?_
                        refine rw_get dX10_findCases_227 fl_RX10_50 (sh_m w) (bw_kl (by decide)) rfl ?_
                        refine rw_iload_n dX10_findCases_230 rfl rfl ?_
                        refine rw_iald dX10_findCases_231 (sh_m_used w) (bw_kl (by decide)) (bw_in g6) ?_
                        refine rw_sipush (v := 1000) dX10_findCases_232 (by decide) ?_
                        refine rw_idiv dX10_findCases_235 (by decide) ?_
                        refine rw_sipush (v := 1000) dX10_findCases_236 (by decide) ?_
                        refine rw_imul dX10_findCases_239 ?_
                        refine rw_sipush (v := 1000) dX10_findCases_240 (by decide) ?_
                        refine rw_iadd dX10_findCases_243 ?_
                        refine rw_iload dX10_findCases_244 rfl ?_
                        refine rw_iadd dX10_findCases_246 ?_
                        refine rw_goto (tgt := 259) dX10_findCases_247 (by decide) ?_
                        simp only [if_neg c31] at key
                        exact rw_sub (rw_lc rfl (rw_lc rfl (rw_lc rfl (rw_lc rfl (rw_lc rfl rw_lz))))) key
                    refine rw_if_eq (tgt := 214) dX10_findCases_189 (by decide) (fun c28 => ?_) (fun c28 => ?_)
                    · refine rw_iconst (v := 1) dX10_findCases_214 (by decide) ?_
                      refine rw_goto (tgt := 219) dX10_findCases_215 (by decide) ?_
                      simp only [if_pos c28] at key
                      exact rw_sub (rw_lc rfl (rw_lc rfl (rw_lc rfl (rw_lc rfl (rw_lc rfl (rw_lc rfl rw_lz)))))) key
                    · refine rw_aload_n dX10_findCases_192 rfl rfl ?_
                      refine rw_get dX10_findCases_193 fl_RX10_50 (sh_m w) (bw_kl (by decide)) rfl ?_
                      refine rw_iload_n dX10_findCases_196 rfl rfl ?_
                      refine rw_iald dX10_findCases_197 (sh_m_used w) (bw_kl (by decide)) (bw_in g6) ?_
                      refine rw_sipush (v := 1000) dX10_findCases_198 (by decide) ?_
                      refine rw_irem dX10_findCases_201 (by decide) ?_
                      refine rw_iload dX10_findCases_202 rfl ?_
                      refine rw_iadd dX10_findCases_204 ?_
                      refine rw_aload_n dX10_findCases_205 rfl rfl ?_
                      refine rw_get dX10_findCases_206 fl_RX10_9 (sh_m w) (bw_kl (by decide)) rfl ?_
                      refine rw_iconst (v := 3) dX10_findCases_209 (by decide) ?_
                      refine rw_iald dX10_findCases_210 (sh_m_now w) (bw_kl (by decide)) (bw_in (show bw_ib (3 : Int32) 1530 = true by decide)) ?_
                      refine rw_icmp_le (tgt := 218) dX10_findCases_211 (by decide) (fun c29 => ?_) (fun c29 => ?_)
                      · refine rw_iconst (v := 0) dX10_findCases_218 (by decide) ?_
                        simp only [if_neg c28, if_pos c29] at key
                        exact rw_sub (rw_lc rfl (rw_lc rfl (rw_lc rfl (rw_lc rfl (rw_lc rfl (rw_lc rfl rw_lz)))))) key
                      · refine rw_iconst (v := 1) dX10_findCases_214 (by decide) ?_
                        refine rw_goto (tgt := 219) dX10_findCases_215 (by decide) ?_
                        simp only [if_neg c28, if_neg c29] at key
                        exact rw_sub (rw_lc rfl (rw_lc rfl (rw_lc rfl (rw_lc rfl (rw_lc rfl (rw_lc rfl rw_lz)))))) key
                  · have h := bw_if c26 h
                    refine rw_goto (tgt := 310) dX10_findCases_169 (by decide) ?_
                    refine rw_inc dX10_findCases_310 rfl (by decide) ?_
                    refine rw_goto (tgt := 56) dX10_findCases_313 (by decide) ?_
                    exact rw_sub (rw_lc rfl (rw_lc rfl (rw_lc rfl (rw_lc rfl (rw_lc rfl rw_lz))))) (ih (v2 + (M 98 v4.toNatClampNeg)) x10 (v4 + 1) M h hk)
          · have h := bw_if c11 h
            refine rw_goto (tgt := 316) dX10_findCases_115 (by decide) ?_
            have h := Option.some.inj h
            subst h
            exact rw_sub (rw_lc rfl (rw_lc rfl rw_lz)) hk
        refine rw_icmp_le (tgt := 105) dX10_findCases_92 (by decide) (fun c9 => ?_) (fun c9 => ?_)
        · refine rw_iload_n dX10_findCases_105 rfl rfl ?_
          simp only [if_pos c9] at key
          exact rw_sub (rw_lc rfl (rw_lc rfl (rw_lc rfl (rw_lc rfl rw_lz)))) key
        · refine rw_aload_n dX10_findCases_95 rfl rfl ?_
          refine rw_get dX10_findCases_96 fl_RX10_19 (sh_m w) (bw_kl (by decide)) rfl ?_
          refine rw_iload dX10_findCases_99 rfl ?_
          refine rw_iald dX10_findCases_101 (sh_m_heights w) (bw_kl (by decide)) (bw_in g8) ?_
          refine rw_goto (tgt := 106) dX10_findCases_102 (by decide) ?_
          simp only [if_neg c9] at key
          exact rw_sub (rw_lc rfl (rw_lc rfl (rw_lc rfl (rw_lc rfl rw_lz)))) key
set_option maxRecDepth 20000 in
set_option maxHeartbeats 1000000 in
theorem th_X10_findCases_L41 {w : WE} {out : Mem} : ∀ (n : Nat) (v1 : Int32) (M : Mem), f_X10_findCases_L41 n v1 M = some out → RW w 2 0 0 0 0 cX10_findCases RX10 9 none (bw_Z w (bw_pv out)) 41 [(0, .ref (bw_ad w 93)), (1, .int v1)] [] M := by
  intro n
  induction n with
  | zero => intro v1 M h; cases h
  | succ n ih =>
    intro v1 M h
    rw [f_X10_findCases_L41] at h
    refine rw_iload_n dX10_findCases_41 rfl rfl ?_
    refine rw_aload_n dX10_findCases_42 rfl rfl ?_
    refine rw_get dX10_findCases_43 fl_RX10_206 (sh_m w) (bw_kl (by decide)) rfl ?_
    refine rw_icmp_ge (tgt := 322) dX10_findCases_46 (by decide) (fun c4 => ?_) (fun c4 => ?_)
    · have h := bw_it c4 h
      have h := Option.some.inj h
      subst h
      exact rw_vret dX10_findCases_322 ⟨rfl, rfl⟩
    · have h := bw_if c4 h
      refine rw_iconst (v := 0) dX10_findCases_49 (by decide) ?_
      refine rw_istore_n dX10_findCases_50 rfl (by decide) ?_
      refine rw_iconst (v := 0) dX10_findCases_51 (by decide) ?_
      refine rw_istore_n dX10_findCases_52 rfl (by decide) ?_
      refine rw_iload_n dX10_findCases_53 rfl rfl ?_
      refine rw_istore dX10_findCases_54 (by decide) ?_
      obtain ⟨q37, hq37, h⟩ := bw_bd h
      refine rw_sub (rw_lc rfl (rw_lc rfl (rw_lc rfl (rw_lc rfl (rw_lc rfl rw_lz))))) (th_X10_findCases_L56 bw_fu (0 : Int32) (0 : Int32) v1 M hq37 ?_)
      refine rw_inc dX10_findCases_316 rfl (by decide) ?_
      refine rw_goto (tgt := 41) dX10_findCases_319 (by decide) ?_
      exact rw_sub (rw_lc rfl (rw_lc rfl rw_lz)) (ih (v1 + 1) q37 h)
