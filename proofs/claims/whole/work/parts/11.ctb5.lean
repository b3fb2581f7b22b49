set_option maxRecDepth 20000 in
set_option maxHeartbeats 1000000 in
theorem th_X10_lay_J146 {w : WE} {M : Mem} {v1 : Int32} {v2 : Int32} {v3 : Int32} {v4 : Int32} {s1 : Int32} {s2 : Int32} {out : Int32 × Mem} (h : f_X10_lay_J146 M v1 v2 v3 v4 s1 s2 = some out) : RW w 2 0 0 0 0 cX10_lay RX10 6 (some .int) (bw_Z w (bw_pi (out.1) out.2)) 146 [(0, .ref (bw_ad w 93)), (1, .int v1), (2, .int v2), (3, .int v3), (4, .int v4)] [.int s2, .int s1, .ref (bw_ad w 125)] M := by
  unfold f_X10_lay_J146 at h
  obtain ⟨g15, h⟩ := bw_gd h
  refine rw_iast dX10_lay_146 (sh_m_holdsB w) (bw_kl (by decide)) (bw_in g15) ?_
  obtain ⟨M16, hM16, h⟩ := bw_mlE h
  refine rw_m hM16.symm ?_
  refine rw_iconst (v := 0) dX10_lay_147 (by decide) ?_
  refine rw_istore dX10_lay_148 (by decide) ?_
  exact rw_sub (rw_lc rfl (rw_lc rfl (rw_lc rfl (rw_lc rfl (rw_lc rfl (rw_lc rfl rw_lz)))))) (th_X10_lay_L150 bw_fu (0 : Int32) M16 h)
set_option maxRecDepth 20000 in
set_option maxHeartbeats 1000000 in
theorem th_X10_lay_J111 {w : WE} {M : Mem} {v1 : Int32} {v2 : Int32} {v3 : Int32} {v4 : Int32} {s1 : Int32} {s2 : Int32} {out : Int32 × Mem} (h : f_X10_lay_J111 M v1 v2 v3 v4 s1 s2 = some out) : RW w 2 0 0 0 0 cX10_lay RX10 6 (some .int) (bw_Z w (bw_pi (out.1) out.2)) 111 [(0, .ref (bw_ad w 93)), (1, .int v1), (2, .int v2), (3, .int v3), (4, .int v4)] [.int s2, .int s1, .ref (bw_ad w 124)] M := by
  unfold f_X10_lay_J111 at h
  obtain ⟨g12, h⟩ := bw_gd h
  refine rw_iast dX10_lay_111 (sh_m_holdsA w) (bw_kl (by decide)) (bw_in g12) ?_
  obtain ⟨M13, hM13, h⟩ := bw_mlE h
  refine rw_m hM13.symm ?_
  refine rw_aload_n dX10_lay_112 rfl rfl ?_
  refine rw_get dX10_lay_113 fl_RX10_105 (sh_m w) (bw_kl (by decide)) rfl ?_
  refine rw_iload_n dX10_lay_116 rfl rfl ?_
  refine rw_iload_n dX10_lay_117 rfl rfl ?_
  refine rw_iconst (v := 1) dX10_lay_118 (by decide) ?_
  refine rw_icmp_ne (tgt := 145) dX10_lay_119 (by decide) (fun c14 => ?_) (fun c14 => ?_)
  · have h := bw_if c14 h
    refine rw_iconst (v := 0) dX10_lay_145 (by decide) ?_
    exact rw_sub (rw_lc rfl (rw_lc rfl (rw_lc rfl (rw_lc rfl (rw_lc rfl rw_lz))))) (th_X10_lay_J146 h)
  · have h := bw_it c14 h
    refine rw_aload_n dX10_lay_122 rfl rfl ?_
    refine rw_iload_n dX10_lay_123 rfl rfl ?_
    refine rw_iconst (v := 0) dX10_lay_124 (by decide) ?_
    obtain ⟨q22, hq22, h⟩ := bw_bd h
    refine rw_callV2 dX10_lay_125 ln_RX10_151 mv_X10_board4 (sh_m w) (bw_kl (by decide)) (ct_X10_board4 hq22) (Nat.le_of_ble_eq_true rfl) (Nat.le_of_ble_eq_true rfl) (bw_kki ?_)
    refine rw_aload_n dX10_lay_128 rfl rfl ?_
    refine rw_iload_n dX10_lay_129 rfl rfl ?_
    obtain ⟨q23, hq23, h⟩ := bw_bd h
    refine rw_callV1 dX10_lay_130 ln_RX10_167 mv_X10_booksOn (sh_m w) (bw_kl (by decide)) (ct_X10_booksOn hq23) (Nat.le_of_ble_eq_true rfl) (Nat.le_of_ble_eq_true rfl) (bw_kki ?_)
    refine rw_aload_n dX10_lay_133 rfl rfl ?_
    refine rw_iload_n dX10_lay_134 rfl rfl ?_
    refine rw_iconst (v := 3) dX10_lay_135 (by decide) ?_
    obtain ⟨q24, hq24, h⟩ := bw_bd h
    refine rw_callV2 dX10_lay_136 ln_RX10_151 mv_X10_board4 (sh_m w) (bw_kl (by decide)) (ct_X10_board4 hq24) (Nat.le_of_ble_eq_true rfl) (Nat.le_of_ble_eq_true rfl) (bw_kki ?_)
    refine rw_callS3 dX10_lay_139 ln_RX10_170 ms_X10_worthBy (ct_X10_worthBy rfl) (Nat.le_of_ble_eq_true rfl) (Nat.le_of_ble_eq_true rfl) (bw_kki ?_)
    refine rw_goto (tgt := 146) dX10_lay_142 (by decide) ?_
    exact rw_sub (rw_lc rfl (rw_lc rfl (rw_lc rfl (rw_lc rfl (rw_lc rfl rw_lz))))) (th_X10_lay_J146 h)
set_option maxRecDepth 20000 in
set_option maxHeartbeats 1000000 in
theorem th_X10_lay_J62 {w : WE} {M : Mem} {v1 : Int32} {v2 : Int32} {v3 : Int32} {out : Int32 × Mem} (h : f_X10_lay_J62 M v1 v2 v3 = some out) : RW w 2 0 0 0 0 cX10_lay RX10 6 (some .int) (bw_Z w (bw_pi (out.1) out.2)) 62 [(0, .ref (bw_ad w 93)), (1, .int v1), (2, .int v2), (3, .int v3)] [] M := by
  unfold f_X10_lay_J62 at h
  refine rw_aload_n dX10_lay_62 rfl rfl ?_
  refine rw_get dX10_lay_63 fl_RX10_99 (sh_m w) (bw_kl (by decide)) rfl ?_
  refine rw_iload_n dX10_lay_66 rfl rfl ?_
  obtain ⟨g8, h⟩ := bw_gd h
  refine rw_iald dX10_lay_67 (sh_m_holds w) (bw_kl (by decide)) (bw_in g8) ?_
  refine rw_istore dX10_lay_68 (by decide) ?_
  refine rw_aload_n dX10_lay_70 rfl rfl ?_
  refine rw_get dX10_lay_71 fl_RX10_99 (sh_m w) (bw_kl (by decide)) rfl ?_
  refine rw_iload_n dX10_lay_74 rfl rfl ?_
  refine rw_iload_n dX10_lay_75 rfl rfl ?_
  refine rw_iast dX10_lay_76 (sh_m_holds w) (bw_kl (by decide)) (bw_in g8) ?_
  obtain ⟨M9, hM9, h⟩ := bw_mlE h
  refine rw_m hM9.symm ?_
  refine rw_aload_n dX10_lay_77 rfl rfl ?_
  refine rw_get dX10_lay_78 fl_RX10_102 (sh_m w) (bw_kl (by decide)) rfl ?_
  refine rw_iload_n dX10_lay_81 rfl rfl ?_
  refine rw_iload_n dX10_lay_82 rfl rfl ?_
  refine rw_iconst (v := 1) dX10_lay_83 (by decide) ?_
  refine rw_icmp_ne (tgt := 96) dX10_lay_84 (by decide) (fun c10 => ?_) (fun c10 => ?_)
  · have h := bw_if c10 h
    refine rw_iload_n dX10_lay_96 rfl rfl ?_
    refine rw_iconst (v := 2) dX10_lay_97 (by decide) ?_
    refine rw_icmp_ne (tgt := 110) dX10_lay_98 (by decide) (fun c11 => ?_) (fun c11 => ?_)
    · have h := bw_if c11 h
      refine rw_iload_n dX10_lay_110 rfl rfl ?_
      exact rw_sub (rw_lc rfl (rw_lc rfl (rw_lc rfl (rw_lc rfl (rw_lc rfl rw_lz))))) (th_X10_lay_J111 h)
    · have h := bw_it c11 h
      refine rw_aload_n dX10_lay_101 rfl rfl ?_
      refine rw_get dX10_lay_102 fl_RX10_93 (sh_m w) (bw_kl (by decide)) rfl ?_
      refine rw_iload_n dX10_lay_105 rfl rfl ?_
      obtain ⟨g25, h⟩ := bw_gd h
      refine rw_iald dX10_lay_106 (sh_m_sizes w) (bw_kl (by decide)) (bw_in g25) ?_
      refine rw_goto (tgt := 111) dX10_lay_107 (by decide) ?_
      exact rw_sub (rw_lc rfl (rw_lc rfl (rw_lc rfl (rw_lc rfl (rw_lc rfl rw_lz))))) (th_X10_lay_J111 h)
  · have h := bw_it c10 h
    refine rw_aload_n dX10_lay_87 rfl rfl ?_
    refine rw_iload_n dX10_lay_88 rfl rfl ?_
    refine rw_iconst (v := 0) dX10_lay_89 (by decide) ?_
    obtain ⟨q26, hq26, h⟩ := bw_bd h
    refine rw_callV2 dX10_lay_90 ln_RX10_151 mv_X10_board4 (sh_m w) (bw_kl (by decide)) (ct_X10_board4 hq26) (Nat.le_of_ble_eq_true rfl) (Nat.le_of_ble_eq_true rfl) (bw_kki ?_)
    refine rw_goto (tgt := 111) dX10_lay_93 (by decide) ?_
    exact rw_sub (rw_lc rfl (rw_lc rfl (rw_lc rfl (rw_lc rfl (rw_lc rfl rw_lz))))) (th_X10_lay_J111 h)
set_option maxRecDepth 20000 in
set_option maxHeartbeats 1000000 in
theorem th_X10_lay_J44 {w : WE} {M : Mem} {v1 : Int32} {v2 : Int32} {v3 : Int32} {out : Int32 × Mem} (h : f_X10_lay_J44 M v1 v2 v3 = some out) : RW w 2 0 0 0 0 cX10_lay RX10 6 (some .int) (bw_Z w (bw_pi (out.1) out.2)) 44 [(0, .ref (bw_ad w 93)), (1, .int v1), (2, .int v2), (3, .int v3)] [] M := by
  unfold f_X10_lay_J44 at h
  refine rw_iload_n dX10_lay_44 rfl rfl ?_
  refine rw_iconst (v := 2) dX10_lay_45 (by decide) ?_
  refine rw_icmp_ne (tgt := 62) dX10_lay_46 (by decide) (fun c7 => ?_) (fun c7 => ?_)
  · have h := bw_if c7 h
    exact rw_sub (rw_lc rfl (rw_lc rfl (rw_lc rfl (rw_lc rfl rw_lz)))) (th_X10_lay_J62 h)
  · have h := bw_it c7 h
    refine rw_aload_n dX10_lay_49 rfl rfl ?_
    refine rw_get dX10_lay_50 fl_RX10_90 (sh_m w) (bw_kl (by decide)) rfl ?_
    refine rw_iload_n dX10_lay_53 rfl rfl ?_
    obtain ⟨g27, h⟩ := bw_gd h
    refine rw_iald dX10_lay_54 (sh_m_sorts w) (bw_kl (by decide)) (bw_in g27) ?_
    refine rw_if_ge (tgt := 62) dX10_lay_55 (by decide) (fun c28 => ?_) (fun c28 => ?_)
    · have h := bw_it c28 h
      exact rw_sub (rw_lc rfl (rw_lc rfl (rw_lc rfl (rw_lc rfl rw_lz)))) (th_X10_lay_J62 h)
    · have h := bw_if c28 h
      refine rw_ldcw dX10_lay_58 cn_RX10_347 ?_
      have h := Option.some.inj h
      subst h
      exact rw_iret dX10_lay_61 ⟨rfl, rfl⟩
set_option maxRecDepth 20000 in
set_option maxHeartbeats 1000000 in
theorem th_X10_lay_J29 {w : WE} {M : Mem} {v1 : Int32} {v2 : Int32} {v3 : Int32} {out : Int32 × Mem} (h : f_X10_lay_J29 M v1 v2 v3 = some out) : RW w 2 0 0 0 0 cX10_lay RX10 6 (some .int) (bw_Z w (bw_pi (out.1) out.2)) 29 [(0, .ref (bw_ad w 93)), (1, .int v1), (2, .int v2), (3, .int v3)] [] M := by
  unfold f_X10_lay_J29 at h
  refine rw_iload_n dX10_lay_29 rfl rfl ?_
  refine rw_iconst (v := 2) dX10_lay_30 (by decide) ?_
  refine rw_icmp_ne (tgt := 44) dX10_lay_31 (by decide) (fun c6 => ?_) (fun c6 => ?_)
  · have h := bw_if c6 h
    exact rw_sub (rw_lc rfl (rw_lc rfl (rw_lc rfl (rw_lc rfl rw_lz)))) (th_X10_lay_J44 h)
  · have h := bw_it c6 h
    refine rw_iload_n dX10_lay_34 rfl rfl ?_
    refine rw_callS1 dX10_lay_35 ln_RX10_343 ms_X10_isSheet (ct_X10_isSheet rfl) (Nat.le_of_ble_eq_true rfl) (Nat.le_of_ble_eq_true rfl) (bw_kkz (fun z29 => ?_))
    refine rw_if_ne (tgt := 44) dX10_lay_38 (by decide) (fun c30 => ?_) (fun c30 => ?_)
    · have h := bw_if c30 h
      exact rw_sub (rw_lc rfl (rw_lc rfl (rw_lc rfl (rw_lc rfl rw_lz)))) (th_X10_lay_J44 h)
    · have h := bw_it c30 h
      refine rw_ldc dX10_lay_41 cn_RX10_125 ?_
      have h := Option.some.inj h
      subst h
      exact rw_iret dX10_lay_43 ⟨rfl, rfl⟩
set_option maxRecDepth 20000 in
set_option maxHeartbeats 1000000 in
theorem ct_X10_lay {w : WE} {M : Mem} {v1 : Int32} {v2 : Int32} {v3 : Int32} {out : Int32 × Mem} (h : f_X10_lay M v1 v2 v3 = some out) : Ct w 2 yX10_lay cX10_lay 6 (some .int) [.ref (bw_ad w 93), .int v1, .int v2, .int v3] M (bw_pi (out.1) out.2) := by
  refine Ct.of (own := RX10) rfl (by decide) (by intro v hv; simp only [List.mem_cons, List.not_mem_nil, or_false] at hv; rcases hv with rfl | rfl | rfl | rfl <;> first | rfl | exact bw_cat_rf _) (Nat.le_of_ble_eq_true rfl) ?_
  unfold f_X10_lay at h
  show RW w 2 0 0 0 0 cX10_lay RX10 6 (some .int) (bw_Z w (bw_pi (out.1) out.2)) 0 [(0, .ref (bw_ad w 93)), (1, .int v1), (2, .int v2), (3, .int v3)] [] M
  refine rw_iload_n dX10_lay_0 rfl rfl ?_
  refine rw_callS1 dX10_lay_1 ln_RX10_351 ms_X10_isSlot (ct_X10_isSlot rfl) (Nat.le_of_ble_eq_true rfl) (Nat.le_of_ble_eq_true rfl) (bw_kkz (fun z1 => ?_))
  refine rw_if_eq (tgt := 41) dX10_lay_4 (by decide) (fun c2 => ?_) (fun c2 => ?_)
  · have h := bw_it c2 h
    refine rw_ldc dX10_lay_41 cn_RX10_125 ?_
    have h := Option.some.inj h
    subst h
    exact rw_iret dX10_lay_43 ⟨rfl, rfl⟩
  · have h := bw_if c2 h
    refine rw_iload_n dX10_lay_7 rfl rfl ?_
    refine rw_iconst (v := 0) dX10_lay_8 (by decide) ?_
    refine rw_iconst (v := 3) dX10_lay_9 (by decide) ?_
    refine rw_callS3 dX10_lay_10 ln_RX10_117 ms_X10_in (ct_X10_in rfl) (Nat.le_of_ble_eq_true rfl) (Nat.le_of_ble_eq_true rfl) (bw_kkz (fun z3 => ?_))
    refine rw_if_eq (tgt := 41) dX10_lay_13 (by decide) (fun c4 => ?_) (fun c4 => ?_)
    · have h := bw_it c4 h
      refine rw_ldc dX10_lay_41 cn_RX10_125 ?_
      have h := Option.some.inj h
      subst h
      exact rw_iret dX10_lay_43 ⟨rfl, rfl⟩
    · have h := bw_if c4 h
      refine rw_iload_n dX10_lay_16 rfl rfl ?_
      refine rw_iconst (v := 1) dX10_lay_17 (by decide) ?_
      refine rw_icmp_ne (tgt := 29) dX10_lay_18 (by decide) (fun c5 => ?_) (fun c5 => ?_)
      · have h := bw_if c5 h
        exact rw_sub (rw_lc rfl (rw_lc rfl (rw_lc rfl (rw_lc rfl rw_lz)))) (th_X10_lay_J29 h)
      · have h := bw_it c5 h
        refine rw_aload_n dX10_lay_21 rfl rfl ?_
        refine rw_iload_n dX10_lay_22 rfl rfl ?_
        refine rw_callV1 dX10_lay_23 ln_RX10_161 mv_X10_isBoard (sh_m w) (bw_kl (by decide)) (ct_X10_isBoard rfl) (Nat.le_of_ble_eq_true rfl) (Nat.le_of_ble_eq_true rfl) (bw_kkz (fun z31 => ?_))
        refine rw_if_eq (tgt := 41) dX10_lay_26 (by decide) (fun c32 => ?_) (fun c32 => ?_)
        · have h := bw_it c32 h
          refine rw_ldc dX10_lay_41 cn_RX10_125 ?_
          have h := Option.some.inj h
          subst h
          exact rw_iret dX10_lay_43 ⟨rfl, rfl⟩
        · have h := bw_if c32 h
          exact rw_sub (rw_lc rfl (rw_lc rfl (rw_lc rfl (rw_lc rfl rw_lz)))) (th_X10_lay_J29 h)
set_option maxRecDepth 20000 in
set_option maxHeartbeats 1000000 in
theorem ct_X10_ask {w : WE} {M : Mem} {v1 : Int32} {v2 : Int32} {out : Int32} (h : f_X10_ask M v1 v2 = some out) : Ct w 2 yX10_ask cX10_ask 3 (some .int) [.ref (bw_ad w 93), .int v1, .int v2] M (bw_pi (out) M) := by
  refine Ct.of (own := RX10) rfl (by decide) (by intro v hv; simp only [List.mem_cons, List.not_mem_nil, or_false] at hv; rcases hv with rfl | rfl | rfl <;> first | rfl | exact bw_cat_rf _) (Nat.le_of_ble_eq_true rfl) ?_
  unfold f_X10_ask at h
  show RW w 2 0 0 0 0 cX10_ask RX10 3 (some .int) (bw_Z w (bw_pi (out) M)) 0 [(0, .ref (bw_ad w 93)), (1, .int v1), (2, .int v2)] [] M
  refine rw_iload_n dX10_ask_0 rfl rfl ?_
  refine rw_callS1 dX10_ask_1 ln_RX10_351 ms_X10_isSlot (ct_X10_isSlot rfl) (Nat.le_of_ble_eq_true rfl) (Nat.le_of_ble_eq_true rfl) (bw_kkz (fun z1 => ?_))
  refine rw_if_eq (tgt := 16) dX10_ask_4 (by decide) (fun c2 => ?_) (fun c2 => ?_)
  · have h := bw_it c2 h
    refine rw_ldc dX10_ask_16 cn_RX10_125 ?_
    have h := Option.some.inj h
    subst h
    exact rw_iret dX10_ask_18 ⟨rfl, rfl⟩
  · have h := bw_if c2 h
    refine rw_iload_n dX10_ask_7 rfl rfl ?_
    refine rw_iconst (v := 0) dX10_ask_8 (by decide) ?_
    refine rw_iconst (v := 5) dX10_ask_9 (by decide) ?_
    refine rw_callS3 dX10_ask_10 ln_RX10_117 ms_X10_in (ct_X10_in rfl) (Nat.le_of_ble_eq_true rfl) (Nat.le_of_ble_eq_true rfl) (bw_kkz (fun z3 => ?_))
    refine rw_if_ne (tgt := 19) dX10_ask_13 (by decide) (fun c4 => ?_) (fun c4 => ?_)
    · have h := bw_if c4 h
      refine rw_aload_n dX10_ask_19 rfl rfl ?_
      refine rw_get dX10_ask_20 fl_RX10_99 (sh_m w) (bw_kl (by decide)) rfl ?_
      refine rw_iload_n dX10_ask_23 rfl rfl ?_
      obtain ⟨g5, h⟩ := bw_gd h
      refine rw_iald dX10_ask_24 (sh_m_holds w) (bw_kl (by decide)) (bw_in g5) ?_
      refine rw_if_ne (tgt := 32) dX10_ask_25 (by decide) (fun c6 => ?_) (fun c6 => ?_)
      · have h := bw_if c6 h
        refine rw_aload_n dX10_ask_32 rfl rfl ?_
        refine rw_get dX10_ask_33 fl_RX10_99 (sh_m w) (bw_kl (by decide)) rfl ?_
        refine rw_iload_n dX10_ask_36 rfl rfl ?_
        refine rw_iald dX10_ask_37 (sh_m_holds w) (bw_kl (by decide)) (bw_in g5) ?_
        refine rw_iconst (v := 1) dX10_ask_38 (by decide) ?_
        refine rw_icmp_ne (tgt := 64) dX10_ask_39 (by decide) (fun c7 => ?_) (fun c7 => ?_)
        · have h := bw_if c7 h
          refine rw_ldc dX10_ask_64 cn_RX10_181 ?_
          have h := Option.some.inj h
          subst h
          exact rw_iret dX10_ask_66 ⟨rfl, rfl⟩
        · have h := bw_it c7 h
          refine rw_aload_n dX10_ask_42 rfl rfl ?_
          refine rw_get dX10_ask_43 fl_RX10_102 (sh_m w) (bw_kl (by decide)) rfl ?_
          refine rw_iload_n dX10_ask_46 rfl rfl ?_
          refine rw_iald dX10_ask_47 (sh_m_holdsA w) (bw_kl (by decide)) (bw_in g5) ?_
          refine rw_iload_n dX10_ask_48 rfl rfl ?_
          refine rw_callS2 dX10_ask_49 ln_RX10_177 ms_X10_isUnder (ct_X10_isUnder rfl) (Nat.le_of_ble_eq_true rfl) (Nat.le_of_ble_eq_true rfl) (bw_kkz (fun z8 => ?_))
          have key : RW w 2 0 0 0 0 cX10_ask RX10 3 (some .int) (bw_Z w (bw_pi (out) M)) 66 [] [.int (if (f_X10_isUnder (M 124 v1.toNatClampNeg) v2) = 0 then (-1000000012 : Int32) else M 125 v1.toNatClampNeg)] M := by
            have h := Option.some.inj h
            subst h
            exact rw_iret dX10_ask_66 ⟨rfl, rfl⟩
          refine rw_if_eq (tgt := 64) dX10_ask_52 (by decide) (fun c9 => ?_) (fun c9 => ?_)
          · refine rw_ldc dX10_ask_64 cn_RX10_181 ?_
            simp only [if_pos c9] at key
            exact rw_sub rw_lz key
          · refine rw_aload_n dX10_ask_55 rfl rfl ?_
            refine rw_get dX10_ask_56 fl_RX10_105 (sh_m w) (bw_kl (by decide)) rfl ?_
            refine rw_iload_n dX10_ask_59 rfl rfl ?_
            refine rw_iald dX10_ask_60 (sh_m_holdsB w) (bw_kl (by decide)) (bw_in g5) ?_
            refine rw_goto (tgt := 66) dX10_ask_61 (by decide) ?_
            simp only [if_neg c9] at key
            exact rw_sub rw_lz key
      · have h := bw_it c6 h
        refine rw_ldcw dX10_ask_28 cn_RX10_347 ?_
        have h := Option.some.inj h
        subst h
        exact rw_iret dX10_ask_31 ⟨rfl, rfl⟩
    · have h := bw_it c4 h
      refine rw_ldc dX10_ask_16 cn_RX10_125 ?_
      have h := Option.some.inj h
      subst h
      exact rw_iret dX10_ask_18 ⟨rfl, rfl⟩
set_option maxRecDepth 20000 in
set_option maxHeartbeats 1000000 in
theorem ct_X10_item {w : WE} {M : Mem} {v1 : Int32} {v2 : Int32} {out : Int32} (h : f_X10_item M v1 v2 = some out) : Ct w 2 yX10_item cX10_item 4 (some .int) [.ref (bw_ad w 93), .int v1, .int v2] M (bw_pi (out) M) := by
  refine Ct.of (own := RX10) rfl (by decide) (by intro v hv; simp only [List.mem_cons, List.not_mem_nil, or_false] at hv; rcases hv with rfl | rfl | rfl <;> first | rfl | exact bw_cat_rf _) (Nat.le_of_ble_eq_true rfl) ?_
  unfold f_X10_item at h
  show RW w 2 0 0 0 0 cX10_item RX10 4 (some .int) (bw_Z w (bw_pi (out) M)) 0 [(0, .ref (bw_ad w 93)), (1, .int v1), (2, .int v2)] [] M
  refine rw_iload_n dX10_item_0 rfl rfl ?_
  refine rw_callS1 dX10_item_1 ln_RX10_351 ms_X10_isSlot (ct_X10_isSlot rfl) (Nat.le_of_ble_eq_true rfl) (Nat.le_of_ble_eq_true rfl) (bw_kkz (fun z1 => ?_))
  refine rw_if_ne (tgt := 10) dX10_item_4 (by decide) (fun c2 => ?_) (fun c2 => ?_)
  · have h := bw_if c2 h
    refine rw_aload_n dX10_item_10 rfl rfl ?_
    refine rw_get dX10_item_11 fl_RX10_99 (sh_m w) (bw_kl (by decide)) rfl ?_
    refine rw_iload_n dX10_item_14 rfl rfl ?_
    obtain ⟨g3, h⟩ := bw_gd h
    refine rw_iald dX10_item_15 (sh_m_holds w) (bw_kl (by decide)) (bw_in g3) ?_
    refine rw_if_ne (tgt := 23) dX10_item_16 (by decide) (fun c4 => ?_) (fun c4 => ?_)
    · have h := bw_if c4 h
      refine rw_aload_n dX10_item_23 rfl rfl ?_
      refine rw_get dX10_item_24 fl_RX10_99 (sh_m w) (bw_kl (by decide)) rfl ?_
      refine rw_iload_n dX10_item_27 rfl rfl ?_
      refine rw_iald dX10_item_28 (sh_m_holds w) (bw_kl (by decide)) (bw_in g3) ?_
      refine rw_iconst (v := 2) dX10_item_29 (by decide) ?_
      refine rw_icmp_eq (tgt := 36) dX10_item_30 (by decide) (fun c5 => ?_) (fun c5 => ?_)
      · have h := bw_it c5 h
        refine rw_iload_n dX10_item_36 rfl rfl ?_
        refine rw_iconst (v := 0) dX10_item_37 (by decide) ?_
        refine rw_aload_n dX10_item_38 rfl rfl ?_
        refine rw_get dX10_item_39 fl_RX10_102 (sh_m w) (bw_kl (by decide)) rfl ?_
        refine rw_iload_n dX10_item_42 rfl rfl ?_
        refine rw_iald dX10_item_43 (sh_m_holdsA w) (bw_kl (by decide)) (bw_in g3) ?_
        refine rw_iconst (v := 1) dX10_item_44 (by decide) ?_
        refine rw_isub dX10_item_45 ?_
        refine rw_callS3 dX10_item_46 ln_RX10_117 ms_X10_in (ct_X10_in rfl) (Nat.le_of_ble_eq_true rfl) (Nat.le_of_ble_eq_true rfl) (bw_kkz (fun z6 => ?_))
        refine rw_if_ne (tgt := 56) dX10_item_49 (by decide) (fun c7 => ?_) (fun c7 => ?_)
        · have h := bw_if c7 h
          refine rw_aload_n dX10_item_56 rfl rfl ?_
          refine rw_get dX10_item_57 fl_RX10_108 (sh_m w) (bw_kl (by decide)) rfl ?_
          refine rw_bipush (v := 24) dX10_item_60 (by decide) ?_
          refine rw_iload_n dX10_item_62 rfl rfl ?_
          refine rw_imul dX10_item_63 ?_
          refine rw_iload_n dX10_item_64 rfl rfl ?_
          refine rw_iadd dX10_item_65 ?_
          obtain ⟨g8, h⟩ := bw_gd h
          refine rw_iald dX10_item_66 (sh_m_heldCells w) (bw_kl (by decide)) (bw_in g8) ?_
          obtain ⟨x9, hx9, h⟩ := bw_mlE h
          refine rw_ti hx9 ?_
          refine rw_istore_n dX10_item_67 rfl (by decide) ?_
          refine rw_iload_n dX10_item_68 rfl rfl ?_
          refine rw_ldc dX10_item_69 cn_RX10_145 ?_
          have key : RW w 2 0 0 0 0 cX10_item RX10 4 (some .int) (bw_Z w (bw_pi (out) M)) 80 [] [.int (if x9 = (-1000000005 : Int32) then (-1000000012 : Int32) else x9)] M := by
            have h := Option.some.inj h
            subst h
            exact rw_iret dX10_item_80 ⟨rfl, rfl⟩
          refine rw_icmp_ne (tgt := 79) dX10_item_71 (by decide) (fun c10 => ?_) (fun c10 => ?_)
          · refine rw_iload_n dX10_item_79 rfl rfl ?_
            simp only [if_neg c10] at key
            exact rw_sub rw_lz key
          · refine rw_ldc dX10_item_74 cn_RX10_181 ?_
            refine rw_goto (tgt := 80) dX10_item_76 (by decide) ?_
            simp only [if_pos c10] at key
            exact rw_sub rw_lz key
        · have h := bw_it c7 h
          refine rw_ldcw dX10_item_52 cn_RX10_348 ?_
          have h := Option.some.inj h
          subst h
          exact rw_iret dX10_item_55 ⟨rfl, rfl⟩
      · have h := bw_if c5 h
        refine rw_ldc dX10_item_33 cn_RX10_181 ?_
        have h := Option.some.inj h
        subst h
        exact rw_iret dX10_item_35 ⟨rfl, rfl⟩
    · have h := bw_it c4 h
      refine rw_ldcw dX10_item_19 cn_RX10_347 ?_
      have h := Option.some.inj h
      subst h
      exact rw_iret dX10_item_22 ⟨rfl, rfl⟩
  · have h := bw_it c2 h
    refine rw_ldc dX10_item_7 cn_RX10_125 ?_
    have h := Option.some.inj h
    subst h
    exact rw_iret dX10_item_9 ⟨rfl, rfl⟩
set_option maxRecDepth 20000 in
set_option maxHeartbeats 1000000 in
theorem ct_X10_rest {w : WE} {M : Mem} {v1 : Int32} {v2 : Int32} {out : Int32} (h : f_X10_rest M v1 v2 = some out) : Ct w 2 yX10_rest cX10_rest 3 (some .int) [.ref (bw_ad w 93), .int v1, .int v2] M (bw_pi (out) M) := by
  refine Ct.of (own := RX10) rfl (by decide) (by intro v hv; simp only [List.mem_cons, List.not_mem_nil, or_false] at hv; rcases hv with rfl | rfl | rfl <;> first | rfl | exact bw_cat_rf _) (Nat.le_of_ble_eq_true rfl) ?_
  unfold f_X10_rest at h
  show RW w 2 0 0 0 0 cX10_rest RX10 3 (some .int) (bw_Z w (bw_pi (out) M)) 0 [(0, .ref (bw_ad w 93)), (1, .int v1), (2, .int v2)] [] M
  refine rw_iload_n dX10_rest_0 rfl rfl ?_
  refine rw_callS1 dX10_rest_1 ln_RX10_351 ms_X10_isSlot (ct_X10_isSlot rfl) (Nat.le_of_ble_eq_true rfl) (Nat.le_of_ble_eq_true rfl) (bw_kkz (fun z1 => ?_))
  refine rw_if_ne (tgt := 10) dX10_rest_4 (by decide) (fun c2 => ?_) (fun c2 => ?_)
  · have h := bw_if c2 h
    refine rw_aload_n dX10_rest_10 rfl rfl ?_
    refine rw_get dX10_rest_11 fl_RX10_99 (sh_m w) (bw_kl (by decide)) rfl ?_
    refine rw_iload_n dX10_rest_14 rfl rfl ?_
    obtain ⟨g3, h⟩ := bw_gd h
    refine rw_iald dX10_rest_15 (sh_m_holds w) (bw_kl (by decide)) (bw_in g3) ?_
    refine rw_if_ne (tgt := 23) dX10_rest_16 (by decide) (fun c4 => ?_) (fun c4 => ?_)
    · have h := bw_if c4 h
      refine rw_aload_n dX10_rest_23 rfl rfl ?_
      refine rw_get dX10_rest_24 fl_RX10_99 (sh_m w) (bw_kl (by decide)) rfl ?_
      refine rw_iload_n dX10_rest_27 rfl rfl ?_
      refine rw_iald dX10_rest_28 (sh_m_holds w) (bw_kl (by decide)) (bw_in g3) ?_
      refine rw_iconst (v := 3) dX10_rest_29 (by decide) ?_
      refine rw_icmp_eq (tgt := 36) dX10_rest_30 (by decide) (fun c5 => ?_) (fun c5 => ?_)
      · have h := bw_it c5 h
        refine rw_iload_n dX10_rest_36 rfl rfl ?_
        refine rw_if_ne (tgt := 45) dX10_rest_37 (by decide) (fun c6 => ?_) (fun c6 => ?_)
        · have h := bw_if c6 h
          refine rw_iload_n dX10_rest_45 rfl rfl ?_
          refine rw_iconst (v := -1) dX10_rest_46 (by decide) ?_
          refine rw_icmp_ne (tgt := 54) dX10_rest_47 (by decide) (fun c7 => ?_) (fun c7 => ?_)
          · have h := bw_if c7 h
            refine rw_aload_n dX10_rest_54 rfl rfl ?_
            refine rw_get dX10_rest_55 fl_RX10_102 (sh_m w) (bw_kl (by decide)) rfl ?_
            refine rw_iload_n dX10_rest_58 rfl rfl ?_
            refine rw_iald dX10_rest_59 (sh_m_holdsA w) (bw_kl (by decide)) (bw_in g3) ?_
            refine rw_iload_n dX10_rest_60 rfl rfl ?_
            obtain ⟨g8, h⟩ := bw_gd h
            refine rw_irem dX10_rest_61 g8 ?_
            have h := Option.some.inj h
            subst h
            exact rw_iret dX10_rest_62 ⟨rfl, rfl⟩
          · have h := bw_it c7 h
            refine rw_iconst (v := 0) dX10_rest_50 (by decide) ?_
            refine rw_goto (tgt := 62) dX10_rest_51 (by decide) ?_
            have h := Option.some.inj h
            subst h
            exact rw_iret dX10_rest_62 ⟨rfl, rfl⟩
        · have h := bw_it c6 h
          refine rw_ldc dX10_rest_40 cn_RX10_240 ?_
          refine rw_goto (tgt := 62) dX10_rest_42 (by decide) ?_
          have h := Option.some.inj h
          subst h
          exact rw_iret dX10_rest_62 ⟨rfl, rfl⟩
      · have h := bw_if c5 h
        refine rw_ldc dX10_rest_33 cn_RX10_181 ?_
        have h := Option.some.inj h
        subst h
        exact rw_iret dX10_rest_35 ⟨rfl, rfl⟩
    · have h := bw_it c4 h
      refine rw_ldcw dX10_rest_19 cn_RX10_347 ?_
      have h := Option.some.inj h
      subst h
      exact rw_iret dX10_rest_22 ⟨rfl, rfl⟩
  · have h := bw_it c2 h
    refine rw_ldc dX10_rest_7 cn_RX10_125 ?_
    have h := Option.some.inj h
    subst h
    exact rw_iret dX10_rest_9 ⟨rfl, rfl⟩
set_option maxRecDepth 20000 in
set_option maxHeartbeats 1000000 in
theorem ct_X10_tell {w : WE} {M : Mem} {v1 : Int32} {out : Int32 × Mem} (h : f_X10_tell M v1 = some out) : Ct w 0 yX10_tell cX10_tell 2 (some .int) [.ref (bw_ad w 93), .int v1] M (bw_pi (out.1) out.2) := by
  refine Ct.of (own := RX10) rfl (by decide) (by intro v hv; simp only [List.mem_cons, List.not_mem_nil, or_false] at hv; rcases hv with rfl | rfl <;> first | rfl | exact bw_cat_rf _) (Nat.le_of_ble_eq_true rfl) ?_
  unfold f_X10_tell at h
  show RW w 0 0 0 0 0 cX10_tell RX10 2 (some .int) (bw_Z w (bw_pi (out.1) out.2)) 0 [(0, .ref (bw_ad w 93)), (1, .int v1)] [] M
  refine rw_aload_n dX10_tell_0 rfl rfl ?_
  refine rw_get dX10_tell_1 fl_RX10_354 (sh_m w) (bw_kl (by decide)) rfl ?_
  refine rw_bipush (v := 60) dX10_tell_4 (by decide) ?_
  refine rw_icmp_ne (tgt := 12) dX10_tell_6 (by decide) (fun c1 => ?_) (fun c1 => ?_)
  · have h := bw_if c1 h
    refine rw_aload_n dX10_tell_12 rfl rfl ?_
    refine rw_get dX10_tell_13 fl_RX10_114 (sh_m w) (bw_kl (by decide)) rfl ?_
    refine rw_aload_n dX10_tell_16 rfl rfl ?_
    refine rw_get dX10_tell_17 fl_RX10_354 (sh_m w) (bw_kl (by decide)) rfl ?_
    refine rw_iload_n dX10_tell_20 rfl rfl ?_
    obtain ⟨g2, h⟩ := bw_gd h
    refine rw_iast dX10_tell_21 (sh_m_tells w) (bw_kl (by decide)) (bw_in g2) ?_
    obtain ⟨M3, hM3, h⟩ := bw_mlE h
    refine rw_m hM3.symm ?_
    refine rw_aload_n dX10_tell_22 rfl rfl ?_
    refine rw_dup dX10_tell_23 rfl ?_
    refine rw_get dX10_tell_24 fl_RX10_354 (sh_m w) (bw_kl (by decide)) rfl ?_
    refine rw_iconst (v := 1) dX10_tell_27 (by decide) ?_
    refine rw_iadd dX10_tell_28 ?_
    refine rw_puti dX10_tell_29 fl_RX10_354 fp_10_54 (sh_m w) (bw_kl (by decide)) (by decide) (fun _ => rfl) (fun _ => Nat.le_of_ble_eq_true rfl) ?_
    obtain ⟨M4, hM4, h⟩ := bw_mlE h
    refine rw_m hM4.symm ?_
    refine rw_aload_n dX10_tell_32 rfl rfl ?_
    refine rw_get dX10_tell_33 fl_RX10_354 (sh_m w) (bw_kl (by decide)) rfl ?_
    have h := Option.some.inj h
    subst h
    exact rw_iret dX10_tell_36 ⟨rfl, rfl⟩
  · have h := bw_it c1 h
    refine rw_ldc dX10_tell_9 cn_RX10_126 ?_
    have h := Option.some.inj h
    subst h
    exact rw_iret dX10_tell_11 ⟨rfl, rfl⟩
set_option maxRecDepth 20000 in
set_option maxHeartbeats 1000000 in
theorem th_X10_rightYears_L5 {w : WE} {v1 : Int32} {v2 : Int32} {out : Int32 × Mem} : ∀ (n : Nat) (v3 : Int32) (v4 : Int32) (M : Mem), f_X10_rightYears_L5 v1 v2 n v3 v4 M = some out → RW w 3 0 0 0 0 cX10_rightYears RX10 6 (some .int) (bw_Z w (bw_pi (out.1) out.2)) 5 [(0, .ref (bw_ad w 93)), (1, .int v1), (2, .int v2), (3, .int v3), (4, .int v4)] [] M := by
  intro n
  induction n with
  | zero => intro v3 v4 M h; cases h
  | succ n ih =>
    intro v3 v4 M h
    rw [f_X10_rightYears_L5] at h
    refine rw_iload dX10_rightYears_5 rfl ?_
    refine rw_iload_n dX10_rightYears_7 rfl rfl ?_
    refine rw_icmp_gt (tgt := 102) dX10_rightYears_8 (by decide) (fun c1 => ?_) (fun c1 => ?_)
    · have h := bw_it c1 h
      refine rw_iload_n dX10_rightYears_102 rfl rfl ?_
      have h := Option.some.inj h
      subst h
      exact rw_iret dX10_rightYears_103 ⟨rfl, rfl⟩
    · have h := bw_if c1 h
      refine rw_iload_n dX10_rightYears_11 rfl rfl ?_
      refine rw_iconst (v := 2) dX10_rightYears_12 (by decide) ?_
      refine rw_iload dX10_rightYears_13 rfl ?_
      refine rw_imul dX10_rightYears_15 ?_
      refine rw_iconst (v := 2) dX10_rightYears_16 (by decide) ?_
      refine rw_isub dX10_rightYears_17 ?_
      refine rw_icmp_ne (tgt := 102) dX10_rightYears_18 (by decide) (fun c2 => ?_) (fun c2 => ?_)
      · have h := bw_if c2 h
        refine rw_iload_n dX10_rightYears_102 rfl rfl ?_
        have h := Option.some.inj h
        subst h
        exact rw_iret dX10_rightYears_103 ⟨rfl, rfl⟩
      · have h := bw_it c2 h
        refine rw_aload_n dX10_rightYears_21 rfl rfl ?_
        refine rw_iload dX10_rightYears_22 rfl ?_
        obtain ⟨q3, hq3, h⟩ := bw_bd h
        refine rw_callV1 dX10_rightYears_24 ln_RX10_337 mv_X10_growsIn (sh_m w) (bw_kl (by decide)) (ct_X10_growsIn hq3) (Nat.le_of_ble_eq_true rfl) (Nat.le_of_ble_eq_true rfl) (bw_kkv ?_)
        refine rw_aload_n dX10_rightYears_27 rfl rfl ?_
        obtain ⟨q4, hq4, h⟩ := bw_bd h
        refine rw_callV0 dX10_rightYears_28 ln_RX10_340 mv_X10_mostFull (sh_m w) (bw_kl (by decide)) (ct_X10_mostFull hq4) (Nat.le_of_ble_eq_true rfl) (Nat.le_of_ble_eq_true rfl) (bw_kki ?_)
        refine rw_istore dX10_rightYears_31 (by decide) ?_
        refine rw_iload_n dX10_rightYears_33 rfl rfl ?_
        refine rw_iload_n dX10_rightYears_34 rfl rfl ?_
        refine rw_iload_n dX10_rightYears_35 rfl rfl ?_
        refine rw_icmp_ge (tgt := 54) dX10_rightYears_36 (by decide) (fun c5 => ?_) (fun c5 => ?_)
        · have h := bw_it c5 h
          refine rw_iconst (v := 0) dX10_rightYears_54 (by decide) ?_
          refine rw_iadd dX10_rightYears_55 ?_
          refine rw_istore_n dX10_rightYears_56 rfl (by decide) ?_
          refine rw_iload_n dX10_rightYears_57 rfl rfl ?_
          refine rw_iload_n dX10_rightYears_58 rfl rfl ?_
          refine rw_iconst (v := 2) dX10_rightYears_59 (by decide) ?_
          refine rw_iload dX10_rightYears_60 rfl ?_
          refine rw_imul dX10_rightYears_62 ?_
          refine rw_iconst (v := 1) dX10_rightYears_63 (by decide) ?_
          refine rw_isub dX10_rightYears_64 ?_
          refine rw_icmp_ne (tgt := 93) dX10_rightYears_65 (by decide) (fun c6 => ?_) (fun c6 => ?_)
          · have h := bw_if c6 h
            refine rw_iconst (v := 0) dX10_rightYears_93 (by decide) ?_
            refine rw_iadd dX10_rightYears_94 ?_
            obtain ⟨x7, hx7, h⟩ := bw_mlE h
            refine rw_ti hx7 ?_
            refine rw_istore_n dX10_rightYears_95 rfl (by decide) ?_
            refine rw_inc dX10_rightYears_96 rfl (by decide) ?_
            refine rw_goto (tgt := 5) dX10_rightYears_99 (by decide) ?_
            exact rw_sub (rw_lc rfl (rw_lc rfl (rw_lc rfl (rw_lc rfl (rw_lc rfl rw_lz))))) (ih x7 (v4 + 1) q3 h)
          · have h := bw_it c6 h
            refine rw_iload_n dX10_rightYears_68 rfl rfl ?_
            refine rw_iload_n dX10_rightYears_69 rfl rfl ?_
            refine rw_icmp_ge (tgt := 93) dX10_rightYears_70 (by decide) (fun c8 => ?_) (fun c8 => ?_)
            · have h := bw_it c8 h
              refine rw_iconst (v := 0) dX10_rightYears_93 (by decide) ?_
              refine rw_iadd dX10_rightYears_94 ?_
              obtain ⟨x9, hx9, h⟩ := bw_mlE h
              refine rw_ti hx9 ?_
              refine rw_istore_n dX10_rightYears_95 rfl (by decide) ?_
              refine rw_inc dX10_rightYears_96 rfl (by decide) ?_
              refine rw_goto (tgt := 5) dX10_rightYears_99 (by decide) ?_
              exact rw_sub (rw_lc rfl (rw_lc rfl (rw_lc rfl (rw_lc rfl (rw_lc rfl rw_lz))))) (ih x9 (v4 + 1) q3 h)
            · have h := bw_if c8 h
              refine rw_aload_n dX10_rightYears_73 rfl rfl ?_
              refine rw_get dX10_rightYears_74 fl_RX10_114 (sh_m w) (bw_kl (by decide)) rfl ?_
              refine rw_iload_n dX10_rightYears_77 rfl rfl ?_
              obtain ⟨g10, h⟩ := bw_gd h
              refine rw_iald dX10_rightYears_78 (sh_m_tells w) (bw_kl (by decide)) (bw_in g10) ?_
              refine rw_aload_n dX10_rightYears_79 rfl rfl ?_
              refine rw_get dX10_rightYears_80 fl_RX10_84 (sh_m w) (bw_kl (by decide)) rfl ?_
              refine rw_iload dX10_rightYears_83 rfl ?_
              obtain ⟨g11, h⟩ := bw_gd h
              refine rw_iald dX10_rightYears_85 (sh_m_full w) (bw_kl (by decide)) (bw_in g11) ?_
              have key : RW w 3 0 0 0 0 cX10_rightYears RX10 6 (some .int) (bw_Z w (bw_pi (out.1) out.2)) 94 [(0, .ref (bw_ad w 93)), (1, .int v1), (2, .int v2), (4, .int v4)] [.int (if (q3 128 (v3 + (0 : Int32)).toNatClampNeg) = (q3 118 q4.toNatClampNeg) then (1 : Int32) else (0 : Int32)), .int (v3 + (0 : Int32))] q3 := by
                refine rw_iadd dX10_rightYears_94 ?_
                obtain ⟨x13, hx13, h⟩ := bw_mlE h
                refine rw_ti hx13 ?_
                refine rw_istore_n dX10_rightYears_95 rfl (by decide) ?_
                refine rw_inc dX10_rightYears_96 rfl (by decide) ?_
                refine rw_goto (tgt := 5) dX10_rightYears_99 (by decide) ?_
                exact rw_sub (rw_lc rfl (rw_lc rfl (rw_lc rfl (rw_lc rfl (rw_lc rfl rw_lz))))) (ih x13 (v4 + 1) q3 h)
              refine rw_icmp_ne (tgt := 93) dX10_rightYears_86 (by decide) (fun c12 => ?_) (fun c12 => ?_)
              · refine rw_iconst (v := 0) dX10_rightYears_93 (by decide) ?_
                simp only [if_neg c12] at key
                exact rw_sub (rw_lc rfl (rw_lc rfl (rw_lc rfl (rw_lc rfl rw_lz)))) key
              · refine rw_iconst (v := 1) dX10_rightYears_89 (by decide) ?_
                refine rw_goto (tgt := 94) dX10_rightYears_90 (by decide) ?_
                simp only [if_pos c12] at key
                exact rw_sub (rw_lc rfl (rw_lc rfl (rw_lc rfl (rw_lc rfl rw_lz)))) key
        · have h := bw_if c5 h
          refine rw_aload_n dX10_rightYears_39 rfl rfl ?_
          refine rw_get dX10_rightYears_40 fl_RX10_114 (sh_m w) (bw_kl (by decide)) rfl ?_
          refine rw_iload_n dX10_rightYears_43 rfl rfl ?_
          obtain ⟨g14, h⟩ := bw_gd h
          refine rw_iald dX10_rightYears_44 (sh_m_tells w) (bw_kl (by decide)) (bw_in g14) ?_
          refine rw_iload dX10_rightYears_45 rfl ?_
          have key : RW w 3 0 0 0 0 cX10_rightYears RX10 6 (some .int) (bw_Z w (bw_pi (out.1) out.2)) 55 [(0, .ref (bw_ad w 93)), (1, .int v1), (2, .int v2), (4, .int v4), (5, .int q4)] [.int (if (q3 128 v3.toNatClampNeg) = q4 then (1 : Int32) else (0 : Int32)), .int v3] q3 := by
            refine rw_iadd dX10_rightYears_55 ?_
            obtain ⟨x16, hx16, h⟩ := bw_mlE h
            refine rw_ti hx16 ?_
            refine rw_istore_n dX10_rightYears_56 rfl (by decide) ?_
            refine rw_iload_n dX10_rightYears_57 rfl rfl ?_
            refine rw_iload_n dX10_rightYears_58 rfl rfl ?_
            refine rw_iconst (v := 2) dX10_rightYears_59 (by decide) ?_
            refine rw_iload dX10_rightYears_60 rfl ?_
            refine rw_imul dX10_rightYears_62 ?_
            refine rw_iconst (v := 1) dX10_rightYears_63 (by decide) ?_
            refine rw_isub dX10_rightYears_64 ?_
            refine rw_icmp_ne (tgt := 93) dX10_rightYears_65 (by decide) (fun c17 => ?_) (fun c17 => ?_)
            · have h := bw_if c17 h
              refine rw_iconst (v := 0) dX10_rightYears_93 (by decide) ?_
              refine rw_iadd dX10_rightYears_94 ?_
              refine rw_istore_n dX10_rightYears_95 rfl (by decide) ?_
              refine rw_inc dX10_rightYears_96 rfl (by decide) ?_
              refine rw_goto (tgt := 5) dX10_rightYears_99 (by decide) ?_
              exact rw_sub (rw_lc rfl (rw_lc rfl (rw_lc rfl (rw_lc rfl (rw_lc rfl rw_lz))))) (ih (x16 + (0 : Int32)) (v4 + 1) q3 h)
            · have h := bw_it c17 h
              refine rw_iload_n dX10_rightYears_68 rfl rfl ?_
              refine rw_iload_n dX10_rightYears_69 rfl rfl ?_
              refine rw_icmp_ge (tgt := 93) dX10_rightYears_70 (by decide) (fun c18 => ?_) (fun c18 => ?_)
              · have h := bw_it c18 h
                refine rw_iconst (v := 0) dX10_rightYears_93 (by decide) ?_
                refine rw_iadd dX10_rightYears_94 ?_
                refine rw_istore_n dX10_rightYears_95 rfl (by decide) ?_
                refine rw_inc dX10_rightYears_96 rfl (by decide) ?_
                refine rw_goto (tgt := 5) dX10_rightYears_99 (by decide) ?_
                exact rw_sub (rw_lc rfl (rw_lc rfl (rw_lc rfl (rw_lc rfl (rw_lc rfl rw_lz))))) (ih (x16 + (0 : Int32)) (v4 + 1) q3 h)
              · have h := bw_if c18 h
                refine rw_aload_n dX10_rightYears_73 rfl rfl ?_
                refine rw_get dX10_rightYears_74 fl_RX10_114 (sh_m w) (bw_kl (by decide)) rfl ?_
                refine rw_iload_n dX10_rightYears_77 rfl rfl ?_
                obtain ⟨g19, h⟩ := bw_gd h
                refine rw_iald dX10_rightYears_78 (sh_m_tells w) (bw_kl (by decide)) (bw_in g19) ?_
                refine rw_aload_n dX10_rightYears_79 rfl rfl ?_
                refine rw_get dX10_rightYears_80 fl_RX10_84 (sh_m w) (bw_kl (by decide)) rfl ?_
                refine rw_iload dX10_rightYears_83 rfl ?_
                obtain ⟨g20, h⟩ := bw_gd h
                refine rw_iald dX10_rightYears_85 (sh_m_full w) (bw_kl (by decide)) (bw_in g20) ?_
                have key : RW w 3 0 0 0 0 cX10_rightYears RX10 6 (some .int) (bw_Z w (bw_pi (out.1) out.2)) 94 [(0, .ref (bw_ad w 93)), (1, .int v1), (2, .int v2), (4, .int v4)] [.int (if (q3 128 x16.toNatClampNeg) = (q3 118 q4.toNatClampNeg) then (1 : Int32) else (0 : Int32)), .int x16] q3 := by
                  refine rw_iadd dX10_rightYears_94 ?_
                  obtain ⟨x22, hx22, h⟩ := bw_mlE h
                  refine rw_ti hx22 ?_
                  refine rw_istore_n dX10_rightYears_95 rfl (by decide) ?_
                  refine rw_inc dX10_rightYears_96 rfl (by decide) ?_
                  refine rw_goto (tgt := 5) dX10_rightYears_99 (by decide) ?_
                  exact rw_sub (rw_lc rfl (rw_lc rfl (rw_lc rfl (rw_lc rfl (rw_lc rfl rw_lz))))) (ih x22 (v4 + 1) q3 h)
                refine rw_icmp_ne (tgt := 93) dX10_rightYears_86 (by decide) (fun c21 => ?_) (fun c21 => ?_)
                · refine rw_iconst (v := 0) dX10_rightYears_93 (by decide) ?_
                  simp only [if_neg c21] at key
                  exact rw_sub (rw_lc rfl (rw_lc rfl (rw_lc rfl (rw_lc rfl rw_lz)))) key
                · refine rw_iconst (v := 1) dX10_rightYears_89 (by decide) ?_
                  refine rw_goto (tgt := 94) dX10_rightYears_90 (by decide) ?_
                  simp only [if_pos c21] at key
                  exact rw_sub (rw_lc rfl (rw_lc rfl (rw_lc rfl (rw_lc rfl rw_lz)))) key
          refine rw_icmp_ne (tgt := 54) dX10_rightYears_47 (by decide) (fun c15 => ?_) (fun c15 => ?_)
          · refine rw_iconst (v := 0) dX10_rightYears_54 (by decide) ?_
            simp only [if_neg c15] at key
            exact rw_sub (rw_lc rfl (rw_lc rfl (rw_lc rfl (rw_lc rfl (rw_lc rfl rw_lz))))) key
          · refine rw_iconst (v := 1) dX10_rightYears_50 (by decide) ?_
            refine rw_goto (tgt := 55) dX10_rightYears_51 (by decide) ?_
            simp only [if_pos c15] at key
            exact rw_sub (rw_lc rfl (rw_lc rfl (rw_lc rfl (rw_lc rfl (rw_lc rfl rw_lz))))) key
set_option maxRecDepth 20000 in
set_option maxHeartbeats 1000000 in
theorem ct_X10_rightYears {w : WE} {M : Mem} {v1 : Int32} {v2 : Int32} {out : Int32 × Mem} (h : f_X10_rightYears M v1 v2 = some out) : Ct w 3 yX10_rightYears cX10_rightYears 6 (some .int) [.ref (bw_ad w 93), .int v1, .int v2] M (bw_pi (out.1) out.2) := by
  refine Ct.of (own := RX10) rfl (by decide) (by intro v hv; simp only [List.mem_cons, List.not_mem_nil, or_false] at hv; rcases hv with rfl | rfl | rfl <;> first | rfl | exact bw_cat_rf _) (Nat.le_of_ble_eq_true rfl) ?_
  unfold f_X10_rightYears at h
  show RW w 3 0 0 0 0 cX10_rightYears RX10 6 (some .int) (bw_Z w (bw_pi (out.1) out.2)) 0 [(0, .ref (bw_ad w 93)), (1, .int v1), (2, .int v2)] [] M
  refine rw_iconst (v := 0) dX10_rightYears_0 (by decide) ?_
  refine rw_istore_n dX10_rightYears_1 rfl (by decide) ?_
  refine rw_iconst (v := 1) dX10_rightYears_2 (by decide) ?_
  refine rw_istore dX10_rightYears_3 (by decide) ?_
  exact rw_sub (rw_lc rfl (rw_lc rfl (rw_lc rfl (rw_lc rfl (rw_lc rfl rw_lz))))) (th_X10_rightYears_L5 bw_fu (0 : Int32) (1 : Int32) M h)
set_option maxRecDepth 20000 in
set_option maxHeartbeats 1000000 in
theorem th_X10_check_J93 {w : WE} {M : Mem} {v1 : Int32} {v2 : Int32} {v3 : Int32} {s0 : Int32} {out : Int32 × Mem} (h : f_X10_check_J93 M v1 v2 v3 s0 = some out) : RW w 6 0 0 0 0 cX10_check RX10 5 (some .int) (bw_Z w (bw_pi (out.1) out.2)) 93 [(0, .ref (bw_ad w 93)), (1, .int v1), (2, .int v2), (3, .int v3)] [.int s0] M := by
  unfold f_X10_check_J93 at h
  refine rw_istore dX10_check_93 (by decide) ?_
  refine rw_aload_n dX10_check_95 rfl rfl ?_
  refine rw_get dX10_check_96 fl_RX10_16 (sh_m w) (bw_kl (by decide)) rfl ?_
  refine rw_aload_n dX10_check_99 rfl rfl ?_
  refine rw_get dX10_check_100 fl_RX10_9 (sh_m w) (bw_kl (by decide)) rfl ?_
  obtain ⟨q11, hq11, h⟩ := bw_bd h
  refine rw_callS2 dX10_check_103 ln_RX10_361 ms_X10_copyAll (ct_X10_copyAll (by decide) (by decide) hq11) (Nat.le_of_ble_eq_true rfl) (Nat.le_of_ble_eq_true rfl) (bw_kkv ?_)
  refine rw_iload_n dX10_check_106 rfl rfl ?_
  refine rw_if_ne (tgt := 113) dX10_check_107 (by decide) (fun c12 => ?_) (fun c12 => ?_)
  · have h := bw_if c12 h
    refine rw_iload dX10_check_113 rfl ?_
    refine rw_iload_n dX10_check_115 rfl rfl ?_
    have key : RW w 6 0 0 0 0 cX10_check RX10 5 (some .int) (bw_Z w (bw_pi (out.1) out.2)) 135 [] [.int (if s0 = v2 then (if s0 = ((2 : Int32) * v1) then (0 : Int32) else (1 : Int32) + s0) else (1 : Int32) + s0)] q11 := by
      have h := Option.some.inj h
      subst h
      exact rw_iret dX10_check_135 ⟨rfl, rfl⟩
    refine rw_icmp_ne (tgt := 131) dX10_check_116 (by decide) (fun c13 => ?_) (fun c13 => ?_)
    · refine rw_iconst (v := 1) dX10_check_131 (by decide) ?_
      refine rw_iload dX10_check_132 rfl ?_
      refine rw_iadd dX10_check_134 ?_
      simp only [if_neg c13] at key
      exact rw_sub rw_lz key
    · refine rw_iload dX10_check_119 rfl ?_
      refine rw_iconst (v := 2) dX10_check_121 (by decide) ?_
      refine rw_iload_n dX10_check_122 rfl rfl ?_
      refine rw_imul dX10_check_123 ?_
      refine rw_icmp_ne (tgt := 131) dX10_check_124 (by decide) (fun c14 => ?_) (fun c14 => ?_)
      · refine rw_iconst (v := 1) dX10_check_131 (by decide) ?_
        refine rw_iload dX10_check_132 rfl ?_
        refine rw_iadd dX10_check_134 ?_
        simp only [if_pos c13, if_neg c14] at key
        exact rw_sub rw_lz key
      · refine rw_iconst (v := 0) dX10_check_127 (by decide) ?_
        refine rw_goto (tgt := 135) dX10_check_128 (by decide) ?_
        simp only [if_pos c13, if_pos c14] at key
        exact rw_sub rw_lz key
  · have h := bw_it c12 h
    refine rw_ldc dX10_check_110 cn_RX10_240 ?_
    have h := Option.some.inj h
    subst h
    exact rw_iret dX10_check_112 ⟨rfl, rfl⟩
set_option maxRecDepth 20000 in
set_option maxHeartbeats 1000000 in
theorem th_X10_check_J78 {w : WE} {M : Mem} {v1 : Int32} {v2 : Int32} {s0 : Int32} {out : Int32 × Mem} (h : f_X10_check_J78 M v1 v2 s0 = some out) : RW w 6 0 0 0 0 cX10_check RX10 5 (some .int) (bw_Z w (bw_pi (out.1) out.2)) 78 [(0, .ref (bw_ad w 93)), (1, .int v1), (2, .int v2)] [.int s0] M := by
  unfold f_X10_check_J78 at h
  refine rw_istore_n dX10_check_78 rfl (by decide) ?_
  refine rw_iload_n dX10_check_79 rfl rfl ?_
  refine rw_if_eq (tgt := 92) dX10_check_80 (by decide) (fun c10 => ?_) (fun c10 => ?_)
  · have h := bw_it c10 h
    refine rw_iconst (v := 0) dX10_check_92 (by decide) ?_
    exact rw_sub (rw_lc rfl (rw_lc rfl (rw_lc rfl (rw_lc rfl rw_lz)))) (th_X10_check_J93 h)
  · have h := bw_if c10 h
    refine rw_aload_n dX10_check_83 rfl rfl ?_
    refine rw_iload_n dX10_check_84 rfl rfl ?_
    refine rw_iload_n dX10_check_85 rfl rfl ?_
    obtain ⟨q15, hq15, h⟩ := bw_bd h
    refine rw_callV2 dX10_check_86 ln_RX10_365 mv_X10_rightYears (sh_m w) (bw_kl (by decide)) (ct_X10_rightYears hq15) (Nat.le_of_ble_eq_true rfl) (Nat.le_of_ble_eq_true rfl) (bw_kki ?_)
    refine rw_goto (tgt := 93) dX10_check_89 (by decide) ?_
    exact rw_sub (rw_lc rfl (rw_lc rfl (rw_lc rfl (rw_lc rfl rw_lz)))) (th_X10_check_J93 h)
set_option maxRecDepth 20000 in
set_option maxHeartbeats 1000000 in
theorem ct_X10_check {w : WE} {M : Mem} {v1 : Int32} {out : Int32 × Mem} (h : f_X10_check M v1 = some out) : Ct w 6 yX10_check cX10_check 5 (some .int) [.ref (bw_ad w 93), .int v1] M (bw_pi (out.1) out.2) := by
  refine Ct.of (own := RX10) rfl (by decide) (by intro v hv; simp only [List.mem_cons, List.not_mem_nil, or_false] at hv; rcases hv with rfl | rfl <;> first | rfl | exact bw_cat_rf _) (Nat.le_of_ble_eq_true rfl) ?_
  unfold f_X10_check at h
  show RW w 6 0 0 0 0 cX10_check RX10 5 (some .int) (bw_Z w (bw_pi (out.1) out.2)) 0 [(0, .ref (bw_ad w 93)), (1, .int v1)] [] M
  refine rw_aload_n dX10_check_0 rfl rfl ?_
  refine rw_get dX10_check_1 fl_RX10_354 (sh_m w) (bw_kl (by decide)) rfl ?_
  refine rw_istore_n dX10_check_4 rfl (by decide) ?_
  refine rw_aload_n dX10_check_5 rfl rfl ?_
  refine rw_iconst (v := 0) dX10_check_6 (by decide) ?_
  refine rw_puti dX10_check_7 fl_RX10_354 fp_10_54 (sh_m w) (bw_kl (by decide)) (by decide) (fun _ => rfl) (fun _ => Nat.le_of_ble_eq_true rfl) ?_
  obtain ⟨M1, hM1, h⟩ := bw_mlE h
  refine rw_m hM1.symm ?_
  refine rw_iload_n dX10_check_10 rfl rfl ?_
  refine rw_iconst (v := 1) dX10_check_11 (by decide) ?_
  refine rw_bipush (v := 30) dX10_check_12 (by decide) ?_
  refine rw_callS3 dX10_check_14 ln_RX10_117 ms_X10_in (ct_X10_in rfl) (Nat.le_of_ble_eq_true rfl) (Nat.le_of_ble_eq_true rfl) (bw_kkz (fun z2 => ?_))
  refine rw_if_ne (tgt := 23) dX10_check_17 (by decide) (fun c3 => ?_) (fun c3 => ?_)
  · have h := bw_if c3 h
    refine rw_aload_n dX10_check_23 rfl rfl ?_
    refine rw_get dX10_check_24 fl_RX10_357 (sh_m w) (bw_kl (by decide)) rfl ?_
    refine rw_if_ne (tgt := 33) dX10_check_27 (by decide) (fun c4 => ?_) (fun c4 => ?_)
    · have h := bw_if c4 h
      refine rw_aload_n dX10_check_33 rfl rfl ?_
      refine rw_get dX10_check_34 fl_RX10_9 (sh_m w) (bw_kl (by decide)) rfl ?_
      refine rw_aload_n dX10_check_37 rfl rfl ?_
      refine rw_get dX10_check_38 fl_RX10_16 (sh_m w) (bw_kl (by decide)) rfl ?_
      obtain ⟨q5, hq5, h⟩ := bw_bd h
      refine rw_callS2 dX10_check_41 ln_RX10_361 ms_X10_copyAll (ct_X10_copyAll (by decide) (by decide) hq5) (Nat.le_of_ble_eq_true rfl) (Nat.le_of_ble_eq_true rfl) (bw_kkv ?_)
      refine rw_aload_n dX10_check_44 rfl rfl ?_
      refine rw_get dX10_check_45 fl_RX10_13 (sh_m w) (bw_kl (by decide)) rfl ?_
      refine rw_aload_n dX10_check_48 rfl rfl ?_
      refine rw_get dX10_check_49 fl_RX10_9 (sh_m w) (bw_kl (by decide)) rfl ?_
      obtain ⟨q6, hq6, h⟩ := bw_bd h
      refine rw_callS2 dX10_check_52 ln_RX10_361 ms_X10_copyAll (ct_X10_copyAll (by decide) (by decide) hq6) (Nat.le_of_ble_eq_true rfl) (Nat.le_of_ble_eq_true rfl) (bw_kkv ?_)
      refine rw_aload_n dX10_check_55 rfl rfl ?_
      obtain ⟨q7, hq7, h⟩ := bw_bd h
      refine rw_callV0 dX10_check_56 ln_RX10_334 mv_X10_beginsYears (sh_m w) (bw_kl (by decide)) (ct_X10_beginsYears hq7) (Nat.le_of_ble_eq_true rfl) (Nat.le_of_ble_eq_true rfl) (bw_kkv ?_)
      refine rw_aload_n dX10_check_59 rfl rfl ?_
      refine rw_get dX10_check_60 fl_RX10_141 (sh_m w) (bw_kl (by decide)) rfl ?_
      have key : RW w 6 0 0 0 0 cX10_check RX10 5 (some .int) (bw_Z w (bw_pi (out.1) out.2)) 78 [(0, .ref (bw_ad w 93)), (1, .int v1), (2, .int (M 93 54))] [.int (if (q7 93 16) < 0 then (0 : Int32) else (if (q7 93 17) ≤ 0 then (0 : Int32) else (1 : Int32)))] q7 := by
        exact rw_sub (rw_lc rfl (rw_lc rfl (rw_lc rfl rw_lz))) (th_X10_check_J78 h)
      refine rw_if_lt (tgt := 77) dX10_check_63 (by decide) (fun c8 => ?_) (fun c8 => ?_)
      · refine rw_iconst (v := 0) dX10_check_77 (by decide) ?_
        simp only [if_pos c8] at key
        exact rw_sub (rw_lc rfl (rw_lc rfl (rw_lc rfl rw_lz))) key
      · refine rw_aload_n dX10_check_66 rfl rfl ?_
        refine rw_get dX10_check_67 fl_RX10_219 (sh_m w) (bw_kl (by decide)) rfl ?_
        refine rw_if_le (tgt := 77) dX10_check_70 (by decide) (fun c9 => ?_) (fun c9 => ?_)
        · refine rw_iconst (v := 0) dX10_check_77 (by decide) ?_
          simp only [if_neg c8, if_pos c9] at key
          exact rw_sub (rw_lc rfl (rw_lc rfl (rw_lc rfl rw_lz))) key
        · refine rw_iconst (v := 1) dX10_check_73 (by decide) ?_
          refine rw_goto (tgt := 78) dX10_check_74 (by decide) ?_
          simp only [if_neg c8, if_neg c9] at key
          exact rw_sub (rw_lc rfl (rw_lc rfl (rw_lc rfl rw_lz))) key
    · have h := bw_it c4 h
      refine rw_ldc dX10_check_30 cn_RX10_240 ?_
      have h := Option.some.inj h
      subst h
      exact rw_iret dX10_check_32 ⟨rfl, rfl⟩
  · have h := bw_it c3 h
    refine rw_ldc dX10_check_20 cn_RX10_125 ?_
    have h := Option.some.inj h
    subst h
    exact rw_iret dX10_check_22 ⟨rfl, rfl⟩
set_option maxRecDepth 20000 in
set_option maxHeartbeats 1000000 in
theorem ct_X10_keep {w : WE} {M : Mem} {out : Int32 × Mem} (h : f_X10_keep M = some out) : Ct w 1 yX10_keep cX10_keep 1 (some .int) [.ref (bw_ad w 93)] M (bw_pi (out.1) out.2) := by
  refine Ct.of (own := RX10) rfl (by decide) (by intro v hv; rw [List.mem_singleton.mp hv]; first | rfl | exact bw_cat_rf _) (Nat.le_of_ble_eq_true rfl) ?_
  unfold f_X10_keep at h
  show RW w 1 0 0 0 0 cX10_keep RX10 1 (some .int) (bw_Z w (bw_pi (out.1) out.2)) 0 [(0, .ref (bw_ad w 93))] [] M
  refine rw_aload_n dX10_keep_0 rfl rfl ?_
  refine rw_get dX10_keep_1 fl_RX10_9 (sh_m w) (bw_kl (by decide)) rfl ?_
  refine rw_aload_n dX10_keep_4 rfl rfl ?_
  refine rw_get dX10_keep_5 fl_RX10_13 (sh_m w) (bw_kl (by decide)) rfl ?_
  obtain ⟨q1, hq1, h⟩ := bw_bd h
  refine rw_callS2 dX10_keep_8 ln_RX10_361 ms_X10_copyAll (ct_X10_copyAll (by decide) (by decide) hq1) (Nat.le_of_ble_eq_true rfl) (Nat.le_of_ble_eq_true rfl) (bw_kkv ?_)
  refine rw_aload_n dX10_keep_11 rfl rfl ?_
  refine rw_iconst (v := 1) dX10_keep_12 (by decide) ?_
  refine rw_putz dX10_keep_13 fl_RX10_357 fp_10_3 (sh_m w) (bw_kl (by decide)) bw_n1 (by decide) (fun _ => rfl) (fun _ => Nat.le_of_ble_eq_true rfl) ?_
  obtain ⟨M2, hM2, h⟩ := bw_mlE h
  refine rw_m hM2.symm ?_
  refine rw_aload_n dX10_keep_16 rfl rfl ?_
  refine rw_get dX10_keep_17 fl_RX10_9 (sh_m w) (bw_kl (by decide)) rfl ?_
  refine rw_iconst (v := 4) dX10_keep_20 (by decide) ?_
  refine rw_iald dX10_keep_21 (sh_m_now w) (bw_kl (by decide)) (bw_in (show bw_ib (4 : Int32) 1530 = true by decide)) ?_
  have h := Option.some.inj h
  subst h
  exact rw_iret dX10_keep_22 ⟨rfl, rfl⟩
set_option maxRecDepth 20000 in
set_option maxHeartbeats 1000000 in
theorem ct_X10_back {w : WE} {M : Mem} {out : Int32 × Mem} (h : f_X10_back M = some out) : Ct w 1 yX10_back cX10_back 1 (some .int) [.ref (bw_ad w 93)] M (bw_pi (out.1) out.2) := by
  refine Ct.of (own := RX10) rfl (by decide) (by intro v hv; rw [List.mem_singleton.mp hv]; first | rfl | exact bw_cat_rf _) (Nat.le_of_ble_eq_true rfl) ?_
  unfold f_X10_back at h
  show RW w 1 0 0 0 0 cX10_back RX10 1 (some .int) (bw_Z w (bw_pi (out.1) out.2)) 0 [(0, .ref (bw_ad w 93))] [] M
  refine rw_aload_n dX10_back_0 rfl rfl ?_
  refine rw_get dX10_back_1 fl_RX10_357 (sh_m w) (bw_kl (by decide)) rfl ?_
  refine rw_if_ne (tgt := 10) dX10_back_4 (by decide) (fun c1 => ?_) (fun c1 => ?_)
  · have h := bw_if c1 h
    refine rw_aload_n dX10_back_10 rfl rfl ?_
    refine rw_get dX10_back_11 fl_RX10_13 (sh_m w) (bw_kl (by decide)) rfl ?_
    refine rw_aload_n dX10_back_14 rfl rfl ?_
    refine rw_get dX10_back_15 fl_RX10_9 (sh_m w) (bw_kl (by decide)) rfl ?_
    obtain ⟨q2, hq2, h⟩ := bw_bd h
    refine rw_callS2 dX10_back_18 ln_RX10_361 ms_X10_copyAll (ct_X10_copyAll (by decide) (by decide) hq2) (Nat.le_of_ble_eq_true rfl) (Nat.le_of_ble_eq_true rfl) (bw_kkv ?_)
    refine rw_aload_n dX10_back_21 rfl rfl ?_
    refine rw_get dX10_back_22 fl_RX10_9 (sh_m w) (bw_kl (by decide)) rfl ?_
    refine rw_iconst (v := 4) dX10_back_25 (by decide) ?_
    refine rw_iald dX10_back_26 (sh_m_now w) (bw_kl (by decide)) (bw_in (show bw_ib (4 : Int32) 1530 = true by decide)) ?_
    have h := Option.some.inj h
    subst h
    exact rw_iret dX10_back_27 ⟨rfl, rfl⟩
  · have h := bw_it c1 h
    refine rw_ldc dX10_back_7 cn_RX10_240 ?_
    have h := Option.some.inj h
    subst h
    exact rw_iret dX10_back_9 ⟨rfl, rfl⟩
set_option maxRecDepth 20000 in
set_option maxHeartbeats 1000000 in
theorem th_X10_sumOf_L4 {w : WE} {M : Mem} {v1 : Int32} {out : Int32} : ∀ (n : Nat) (v2 : Int32) (v3 : Int32), f_X10_sumOf_L4 M v1 n v2 v3 = some out → RW w 1 0 0 0 0 cX10_sumOf RX10 4 (some .int) (bw_Z w (bw_pi (out) M)) 4 [(0, .ref (bw_ad w 93)), (1, .int v1), (2, .int v2), (3, .int v3)] [] M := by
  intro n
  induction n with
  | zero => intro v2 v3 h; cases h
  | succ n ih =>
    intro v2 v3 h
    rw [f_X10_sumOf_L4] at h
    refine rw_iload_n dX10_sumOf_4 rfl rfl ?_
    refine rw_aload_n dX10_sumOf_5 rfl rfl ?_
    refine rw_get dX10_sumOf_6 fl_RX10_9 (sh_m w) (bw_kl (by decide)) rfl ?_
    refine rw_iconst (v := 4) dX10_sumOf_9 (by decide) ?_
    refine rw_iald dX10_sumOf_10 (sh_m_now w) (bw_kl (by decide)) (bw_in (show bw_ib (4 : Int32) 1530 = true by decide)) ?_
    refine rw_icmp_ge (tgt := 29) dX10_sumOf_11 (by decide) (fun c1 => ?_) (fun c1 => ?_)
    · have h := bw_it c1 h
      refine rw_iload_n dX10_sumOf_29 rfl rfl ?_
      have h := Option.some.inj h
      subst h
      exact rw_iret dX10_sumOf_30 ⟨rfl, rfl⟩
    · have h := bw_if c1 h
      refine rw_iload_n dX10_sumOf_14 rfl rfl ?_
      refine rw_aload_n dX10_sumOf_15 rfl rfl ?_
      refine rw_iload_n dX10_sumOf_16 rfl rfl ?_
      refine rw_iload_n dX10_sumOf_17 rfl rfl ?_
      obtain ⟨q2, hq2, h⟩ := bw_bd h
      refine rw_callV2 dX10_sumOf_18 ln_RX10_134 mv_X10_book4 (sh_m w) (bw_kl (by decide)) (ct_X10_book4 hq2) (Nat.le_of_ble_eq_true rfl) (Nat.le_of_ble_eq_true rfl) (bw_kki ?_)
      refine rw_iadd dX10_sumOf_21 ?_
      refine rw_istore_n dX10_sumOf_22 rfl (by decide) ?_
      refine rw_inc dX10_sumOf_23 rfl (by decide) ?_
      refine rw_goto (tgt := 4) dX10_sumOf_26 (by decide) ?_
      exact rw_sub (rw_lc rfl (rw_lc rfl (rw_lc rfl (rw_lc rfl rw_lz)))) (ih (v2 + q2) (v3 + 1) h)
set_option maxRecDepth 20000 in
set_option maxHeartbeats 1000000 in
theorem ct_X10_sumOf {w : WE} {M : Mem} {v1 : Int32} {out : Int32} (h : f_X10_sumOf M v1 = some out) : Ct w 1 yX10_sumOf cX10_sumOf 4 (some .int) [.ref (bw_ad w 93), .int v1] M (bw_pi (out) M) := by
  refine Ct.of (own := RX10) rfl (by decide) (by intro v hv; simp only [List.mem_cons, List.not_mem_nil, or_false] at hv; rcases hv with rfl | rfl <;> first | rfl | exact bw_cat_rf _) (Nat.le_of_ble_eq_true rfl) ?_
  unfold f_X10_sumOf at h
  show RW w 1 0 0 0 0 cX10_sumOf RX10 4 (some .int) (bw_Z w (bw_pi (out) M)) 0 [(0, .ref (bw_ad w 93)), (1, .int v1)] [] M
  refine rw_iconst (v := 0) dX10_sumOf_0 (by decide) ?_
  refine rw_istore_n dX10_sumOf_1 rfl (by decide) ?_
  refine rw_iconst (v := 0) dX10_sumOf_2 (by decide) ?_
  refine rw_istore_n dX10_sumOf_3 rfl (by decide) ?_
  exact rw_sub (rw_lc rfl (rw_lc rfl (rw_lc rfl (rw_lc rfl rw_lz)))) (th_X10_sumOf_L4 bw_fu (0 : Int32) (0 : Int32) h)
set_option maxRecDepth 20000 in
set_option maxHeartbeats 1000000 in
theorem ct_X10_count {w : WE} {M : Mem} {v1 : Int32} {out : Int32 × Mem} (h : f_X10_count M v1 = some out) : Ct w 2 yX10_count cX10_count 2 (some .int) [.ref (bw_ad w 93), .int v1] M (bw_pi (out.1) out.2) := by
  refine Ct.of (own := RX10) rfl (by decide) (by intro v hv; simp only [List.mem_cons, List.not_mem_nil, or_false] at hv; rcases hv with rfl | rfl <;> first | rfl | exact bw_cat_rf _) (Nat.le_of_ble_eq_true rfl) ?_
  unfold f_X10_count at h
  show RW w 2 0 0 0 0 cX10_count RX10 2 (some .int) (bw_Z w (bw_pi (out.1) out.2)) 0 [(0, .ref (bw_ad w 93)), (1, .int v1)] [] M
  refine rw_iload_n dX10_count_0 rfl rfl ?_
  refine rw_case (0 : Int32) (fun c1 => ?_) (fun c1 => ?_)
  · have h := bw_it c1 h
    refine rw_tabK (tgt := 56) dX10_count_1 c1 (by decide) (by decide) rfl (by decide) ?_
    refine rw_aload_n dX10_count_56 rfl rfl ?_
    refine rw_get dX10_count_57 fl_RX10_9 (sh_m w) (bw_kl (by decide)) rfl ?_
    refine rw_iconst (v := 4) dX10_count_60 (by decide) ?_
    refine rw_iald dX10_count_61 (sh_m_now w) (bw_kl (by decide)) (bw_in (show bw_ib (4 : Int32) 1530 = true by decide)) ?_
    have h := Option.some.inj h
    subst h
    exact rw_iret dX10_count_62 ⟨rfl, rfl⟩
  · have h := bw_if c1 h
    refine rw_case (1 : Int32) (fun c2 => ?_) (fun c2 => ?_)
    · have h := bw_it c2 h
      refine rw_tabK (tgt := 63) dX10_count_1 c2 (by decide) (by decide) rfl (by decide) ?_
      refine rw_aload_n dX10_count_63 rfl rfl ?_
      refine rw_get dX10_count_64 fl_RX10_9 (sh_m w) (bw_kl (by decide)) rfl ?_
      refine rw_iconst (v := 5) dX10_count_67 (by decide) ?_
      refine rw_iald dX10_count_68 (sh_m_now w) (bw_kl (by decide)) (bw_in (show bw_ib (5 : Int32) 1530 = true by decide)) ?_
      have h := Option.some.inj h
      subst h
      exact rw_iret dX10_count_69 ⟨rfl, rfl⟩
    · have h := bw_if c2 h
      refine rw_case (2 : Int32) (fun c3 => ?_) (fun c3 => ?_)
      · have h := bw_it c3 h
        refine rw_tabK (tgt := 70) dX10_count_1 c3 (by decide) (by decide) rfl (by decide) ?_
        refine rw_aload_n dX10_count_70 rfl rfl ?_
        refine rw_get dX10_count_71 fl_RX10_9 (sh_m w) (bw_kl (by decide)) rfl ?_
        refine rw_bipush (v := 6) dX10_count_74 (by decide) ?_
        refine rw_iald dX10_count_76 (sh_m_now w) (bw_kl (by decide)) (bw_in (show bw_ib (6 : Int32) 1530 = true by decide)) ?_
        have h := Option.some.inj h
        subst h
        exact rw_iret dX10_count_77 ⟨rfl, rfl⟩
      · have h := bw_if c3 h
        refine rw_case (3 : Int32) (fun c4 => ?_) (fun c4 => ?_)
        · have h := bw_it c4 h
          refine rw_tabK (tgt := 78) dX10_count_1 c4 (by decide) (by decide) rfl (by decide) ?_
          refine rw_aload_n dX10_count_78 rfl rfl ?_
          refine rw_get dX10_count_79 fl_RX10_9 (sh_m w) (bw_kl (by decide)) rfl ?_
          refine rw_bipush (v := 7) dX10_count_82 (by decide) ?_
          refine rw_iald dX10_count_84 (sh_m_now w) (bw_kl (by decide)) (bw_in (show bw_ib (7 : Int32) 1530 = true by decide)) ?_
          have h := Option.some.inj h
          subst h
          exact rw_iret dX10_count_85 ⟨rfl, rfl⟩
        · have h := bw_if c4 h
          refine rw_case (4 : Int32) (fun c5 => ?_) (fun c5 => ?_)
          · have h := bw_it c5 h
            refine rw_tabK (tgt := 86) dX10_count_1 c5 (by decide) (by decide) rfl (by decide) ?_
            refine rw_aload_n dX10_count_86 rfl rfl ?_
            refine rw_iconst (v := 1) dX10_count_87 (by decide) ?_
            obtain ⟨q6, hq6, h⟩ := bw_bd h
            refine rw_callV1 dX10_count_88 ln_RX10_368 mv_X10_sumOf (sh_m w) (bw_kl (by decide)) (ct_X10_sumOf hq6) (Nat.le_of_ble_eq_true rfl) (Nat.le_of_ble_eq_true rfl) (bw_kki ?_)
            have h := Option.some.inj h
            subst h
            exact rw_iret dX10_count_91 ⟨rfl, rfl⟩
          · have h := bw_if c5 h
            refine rw_case (5 : Int32) (fun c7 => ?_) (fun c7 => ?_)
            · have h := bw_it c7 h
              refine rw_tabK (tgt := 92) dX10_count_1 c7 (by decide) (by decide) rfl (by decide) ?_
              refine rw_aload_n dX10_count_92 rfl rfl ?_
              refine rw_iconst (v := 3) dX10_count_93 (by decide) ?_
              obtain ⟨q8, hq8, h⟩ := bw_bd h
              refine rw_callV1 dX10_count_94 ln_RX10_368 mv_X10_sumOf (sh_m w) (bw_kl (by decide)) (ct_X10_sumOf hq8) (Nat.le_of_ble_eq_true rfl) (Nat.le_of_ble_eq_true rfl) (bw_kki ?_)
              have h := Option.some.inj h
              subst h
              exact rw_iret dX10_count_97 ⟨rfl, rfl⟩
            · have h := bw_if c7 h
              refine rw_case (6 : Int32) (fun c9 => ?_) (fun c9 => ?_)
              · have h := bw_it c9 h
                refine rw_tabK (tgt := 98) dX10_count_1 c9 (by decide) (by decide) rfl (by decide) ?_
                refine rw_aload_n dX10_count_98 rfl rfl ?_
                obtain ⟨q10, hq10, h⟩ := bw_bd h
                refine rw_callV0 dX10_count_99 ln_RX10_250 mv_X10_findUnlike (sh_m w) (bw_kl (by decide)) (ct_X10_findUnlike hq10) (Nat.le_of_ble_eq_true rfl) (Nat.le_of_ble_eq_true rfl) (bw_kkv ?_)
                refine rw_aload_n dX10_count_102 rfl rfl ?_
                refine rw_get dX10_count_103 fl_RX10_244 (sh_m w) (bw_kl (by decide)) rfl ?_
                have h := Option.some.inj h
                subst h
                exact rw_iret dX10_count_106 ⟨rfl, rfl⟩
              · have h := bw_if c9 h
                refine rw_case (7 : Int32) (fun c11 => ?_) (fun c11 => ?_)
                · have h := bw_it c11 h
                  refine rw_tabK (tgt := 107) dX10_count_1 c11 (by decide) (by decide) rfl (by decide) ?_
                  refine rw_aload_n dX10_count_107 rfl rfl ?_
                  refine rw_get dX10_count_108 fl_RX10_354 (sh_m w) (bw_kl (by decide)) rfl ?_
                  have h := Option.some.inj h
                  subst h
                  exact rw_iret dX10_count_111 ⟨rfl, rfl⟩
                · have h := bw_if c11 h
                  refine rw_case (8 : Int32) (fun c12 => ?_) (fun c12 => ?_)
                  · have h := bw_it c12 h
                    refine rw_tabK (tgt := 112) dX10_count_1 c12 (by decide) (by decide) rfl (by decide) ?_
                    refine rw_aload_n dX10_count_112 rfl rfl ?_
                    refine rw_get dX10_count_113 fl_RX10_266 (sh_m w) (bw_kl (by decide)) rfl ?_
                    have h := Option.some.inj h
                    subst h
                    exact rw_iret dX10_count_116 ⟨rfl, rfl⟩
                  · have h := bw_if c12 h
                    refine rw_case (9 : Int32) (fun c13 => ?_) (fun c13 => ?_)
                    · have h := bw_it c13 h
                      refine rw_tabK (tgt := 117) dX10_count_1 c13 (by decide) (by decide) rfl (by decide) ?_
                      refine rw_aload_n dX10_count_117 rfl rfl ?_
                      refine rw_get dX10_count_118 fl_RX10_9 (sh_m w) (bw_kl (by decide)) rfl ?_
                      refine rw_iconst (v := 0) dX10_count_121 (by decide) ?_
                      refine rw_iald dX10_count_122 (sh_m_now w) (bw_kl (by decide)) (bw_in (show bw_ib (0 : Int32) 1530 = true by decide)) ?_
                      have h := Option.some.inj h
                      subst h
                      exact rw_iret dX10_count_123 ⟨rfl, rfl⟩
                    · have h := bw_if c13 h
                      refine rw_tabD (tgt := 124) dX10_count_1 (by have := lv_neT (a := 0) c1 (by decide); have := lv_neT (a := 1) c2 (by decide); have := lv_neT (a := 2) c3 (by decide); have := lv_neT (a := 3) c4 (by decide); have := lv_neT (a := 4) c5 (by decide); have := lv_neT (a := 5) c7 (by decide); have := lv_neT (a := 6) c9 (by decide); have := lv_neT (a := 7) c11 (by decide); have := lv_neT (a := 8) c12 (by decide); have := lv_neT (a := 9) c13 (by decide); omega) (by decide) ?_
                      refine rw_ldc dX10_count_124 cn_RX10_125 ?_
                      have h := Option.some.inj h
                      subst h
                      exact rw_iret dX10_count_126 ⟨rfl, rfl⟩
