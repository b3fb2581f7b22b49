set_option maxRecDepth 20000 in
set_option maxHeartbeats 1000000 in
theorem ct_X10_takesE {w : WE} {M : Mem} {out : Int32 × Mem} (h : f_X10_takesE M = some out) : Ct w 3 yX10_takesE cX10_takesE 5 (some .boolean) [.ref (bw_ad w 93)] M (bw_pz (out.1) out.2) := by
  refine Ct.of (own := RX10) rfl (by decide) (by intro v hv; rw [List.mem_singleton.mp hv]; first | rfl | exact bw_cat_rf _) (Nat.le_of_ble_eq_true rfl) ?_
  unfold f_X10_takesE at h
  show RW w 3 0 0 0 0 cX10_takesE RX10 5 (some .boolean) (bw_Z w (bw_pz (out.1) out.2)) 0 [(0, .ref (bw_ad w 93))] [] M
  refine rw_iconst (v := 0) dX10_takesE_0 (by decide) ?_
  refine rw_istore_n dX10_takesE_1 rfl (by decide) ?_
  refine rw_iconst (v := 0) dX10_takesE_2 (by decide) ?_
  refine rw_istore_n dX10_takesE_3 rfl (by decide) ?_
  refine rw_iconst (v := 1) dX10_takesE_4 (by decide) ?_
  refine rw_istore_n dX10_takesE_5 rfl (by decide) ?_
  refine rw_aload_n dX10_takesE_6 rfl rfl ?_
  refine rw_iconst (v := 0) dX10_takesE_7 (by decide) ?_
  refine rw_puti dX10_takesE_8 fl_RX10_302 fp_10_36 (sh_m w) (bw_kl (by decide)) (by decide) (fun _ => rfl) (fun _ => Nat.le_of_ble_eq_true rfl) ?_
  obtain ⟨M1, hM1, h⟩ := bw_mlE h
  refine rw_m hM1.symm ?_
  refine rw_aload_n dX10_takesE_11 rfl rfl ?_
  refine rw_iconst (v := 0) dX10_takesE_12 (by decide) ?_
  refine rw_puti dX10_takesE_13 fl_RX10_308 fp_10_37 (sh_m w) (bw_kl (by decide)) (by decide) (fun _ => rfl) (fun _ => Nat.le_of_ble_eq_true rfl) ?_
  obtain ⟨M2, hM2, h⟩ := bw_mlE h
  refine rw_m hM2.symm ?_
  refine rw_aload_n dX10_takesE_16 rfl rfl ?_
  refine rw_iconst (v := 0) dX10_takesE_17 (by decide) ?_
  refine rw_puti dX10_takesE_18 fl_RX10_296 fp_10_39 (sh_m w) (bw_kl (by decide)) (by decide) (fun _ => rfl) (fun _ => Nat.le_of_ble_eq_true rfl) ?_
  obtain ⟨M3, hM3, h⟩ := bw_mlE h
  refine rw_m hM3.symm ?_
  refine rw_aload_n dX10_takesE_21 rfl rfl ?_
  refine rw_get dX10_takesE_22 fl_RX10_75 (sh_m w) (bw_kl (by decide)) rfl ?_
  refine rw_iconst (v := 0) dX10_takesE_25 (by decide) ?_
  refine rw_iconst (v := 0) dX10_takesE_26 (by decide) ?_
  refine rw_zast dX10_takesE_27 (sh_m_tested w) (bw_kl (by decide)) (bw_in (show bw_ib (0 : Int32) 10 = true by decide)) ?_
  obtain ⟨M4, hM4, h⟩ := bw_mlE h
  refine rw_m hM4.symm ?_
  exact rw_sub (rw_lc rfl (rw_lc rfl (rw_lc rfl (rw_lc rfl rw_lz)))) (th_X10_takesE_L28 bw_fu (0 : Int32) (0 : Int32) (1 : Int32) M4 h)
set_option maxRecDepth 20000 in
set_option maxHeartbeats 1000000 in
theorem th_X10_text_L119 {w : WE} {v2 : Int32} {out : Int32 × Mem} : ∀ (n : Nat) (v3 : Int32) (M : Mem), f_X10_text_L119 v2 n v3 M = some out → RW w 4 0 0 0 0 cX10_text RX10 4 (some .int) (bw_Z w (bw_pi (out.1) out.2)) 119 [(0, .ref (bw_ad w 93)), (2, .int v2), (3, .int v3)] [] M := by
  intro n
  induction n with
  | zero => intro v3 M h; cases h
  | succ n ih =>
    intro v3 M h
    rw [f_X10_text_L119] at h
    refine rw_iload_n dX10_text_119 rfl rfl ?_
    refine rw_aload_n dX10_text_120 rfl rfl ?_
    refine rw_get dX10_text_121 fl_RX10_302 (sh_m w) (bw_kl (by decide)) rfl ?_
    refine rw_icmp_ge (tgt := 154) dX10_text_124 (by decide) (fun c15 => ?_) (fun c15 => ?_)
    · have h := bw_it c15 h
      refine rw_aload_n dX10_text_154 rfl rfl ?_
      refine rw_get dX10_text_155 fl_RX10_9 (sh_m w) (bw_kl (by decide)) rfl ?_
      refine rw_bipush (v := 6) dX10_text_158 (by decide) ?_
      refine rw_dup2 dX10_text_160 rfl rfl ?_
      refine rw_iald dX10_text_161 (sh_m_now w) (bw_kl (by decide)) (bw_in (show bw_ib (6 : Int32) 1530 = true by decide)) ?_
      refine rw_iconst (v := 1) dX10_text_162 (by decide) ?_
      refine rw_iadd dX10_text_163 ?_
      refine rw_iast dX10_text_164 (sh_m_now w) (bw_kl (by decide)) (bw_in (show bw_ib (6 : Int32) 1530 = true by decide)) ?_
      obtain ⟨M16, hM16, h⟩ := bw_mlE h
      refine rw_m hM16.symm ?_
      refine rw_iload_n dX10_text_165 rfl rfl ?_
      have h := Option.some.inj h
      subst h
      exact rw_iret dX10_text_166 ⟨rfl, rfl⟩
    · have h := bw_if c15 h
      refine rw_aload_n dX10_text_127 rfl rfl ?_
      refine rw_get dX10_text_128 fl_RX10_9 (sh_m w) (bw_kl (by decide)) rfl ?_
      refine rw_sipush (v := 186) dX10_text_131 (by decide) ?_
      refine rw_bipush (v := 96) dX10_text_134 (by decide) ?_
      refine rw_iload_n dX10_text_136 rfl rfl ?_
      refine rw_imul dX10_text_137 ?_
      refine rw_iadd dX10_text_138 ?_
      refine rw_iload_n dX10_text_139 rfl rfl ?_
      refine rw_iadd dX10_text_140 ?_
      refine rw_aload_n dX10_text_141 rfl rfl ?_
      refine rw_get dX10_text_142 fl_RX10_69 (sh_m w) (bw_kl (by decide)) rfl ?_
      refine rw_iload_n dX10_text_145 rfl rfl ?_
      obtain ⟨g17, h⟩ := bw_gd h
      refine rw_iald dX10_text_146 (sh_m_code w) (bw_kl (by decide)) (bw_in g17) ?_
      obtain ⟨g18, h⟩ := bw_gd h
      refine rw_iast dX10_text_147 (sh_m_now w) (bw_kl (by decide)) (bw_in g18) ?_
      obtain ⟨M19, hM19, h⟩ := bw_mlE h
      refine rw_m hM19.symm ?_
      refine rw_inc dX10_text_148 rfl (by decide) ?_
      refine rw_goto (tgt := 119) dX10_text_151 (by decide) ?_
      exact rw_sub (rw_lc rfl (rw_lc rfl (rw_lc rfl rw_lz))) (ih (v3 + 1) M19 h)
set_option maxRecDepth 20000 in
set_option maxHeartbeats 1000000 in
theorem th_X10_text_J33 {w : WE} {M : Mem} {s0 : Int32} {out : Int32 × Mem} (h : f_X10_text_J33 M s0 = some out) : RW w 4 0 0 0 0 cX10_text RX10 4 (some .int) (bw_Z w (bw_pi (out.1) out.2)) 33 [(0, .ref (bw_ad w 93))] [.int s0] M := by
  unfold f_X10_text_J33 at h
  refine rw_istore_n dX10_text_33 rfl (by decide) ?_
  refine rw_aload_n dX10_text_34 rfl rfl ?_
  refine rw_iconst (v := 0) dX10_text_35 (by decide) ?_
  refine rw_puti dX10_text_36 fl_RX10_266 fp_10_26 (sh_m w) (bw_kl (by decide)) (by decide) (fun _ => rfl) (fun _ => Nat.le_of_ble_eq_true rfl) ?_
  obtain ⟨M7, hM7, h⟩ := bw_mlE h
  refine rw_m hM7.symm ?_
  refine rw_iload_n dX10_text_39 rfl rfl ?_
  refine rw_if_ne (tgt := 51) dX10_text_40 (by decide) (fun c8 => ?_) (fun c8 => ?_)
  · have h := bw_if c8 h
    refine rw_aload_n dX10_text_51 rfl rfl ?_
    refine rw_get dX10_text_52 fl_RX10_9 (sh_m w) (bw_kl (by decide)) rfl ?_
    refine rw_bipush (v := 6) dX10_text_55 (by decide) ?_
    refine rw_iald dX10_text_57 (sh_m_now w) (bw_kl (by decide)) (bw_in (show bw_ib (6 : Int32) 1530 = true by decide)) ?_
    refine rw_bipush (v := 14) dX10_text_58 (by decide) ?_
    refine rw_icmp_ne (tgt := 66) dX10_text_60 (by decide) (fun c9 => ?_) (fun c9 => ?_)
    · have h := bw_if c9 h
      refine rw_aload_n dX10_text_66 rfl rfl ?_
      refine rw_get dX10_text_67 fl_RX10_9 (sh_m w) (bw_kl (by decide)) rfl ?_
      refine rw_bipush (v := 6) dX10_text_70 (by decide) ?_
      refine rw_iald dX10_text_72 (sh_m_now w) (bw_kl (by decide)) (bw_in (show bw_ib (6 : Int32) 1530 = true by decide)) ?_
      obtain ⟨x10, hx10, h⟩ := bw_mlE h
      refine rw_ti hx10 ?_
      refine rw_istore_n dX10_text_73 rfl (by decide) ?_
      refine rw_aload_n dX10_text_74 rfl rfl ?_
      refine rw_get dX10_text_75 fl_RX10_9 (sh_m w) (bw_kl (by decide)) rfl ?_
      refine rw_sipush (v := 158) dX10_text_78 (by decide) ?_
      refine rw_iconst (v := 2) dX10_text_81 (by decide) ?_
      refine rw_iload_n dX10_text_82 rfl rfl ?_
      refine rw_imul dX10_text_83 ?_
      refine rw_iadd dX10_text_84 ?_
      refine rw_sipush (v := 1000) dX10_text_85 (by decide) ?_
      refine rw_aload_n dX10_text_88 rfl rfl ?_
      refine rw_get dX10_text_89 fl_RX10_290 (sh_m w) (bw_kl (by decide)) rfl ?_
      refine rw_imul dX10_text_92 ?_
      refine rw_aload_n dX10_text_93 rfl rfl ?_
      refine rw_get dX10_text_94 fl_RX10_302 (sh_m w) (bw_kl (by decide)) rfl ?_
      refine rw_iadd dX10_text_97 ?_
      obtain ⟨g11, h⟩ := bw_gd h
      refine rw_iast dX10_text_98 (sh_m_now w) (bw_kl (by decide)) (bw_in g11) ?_
      obtain ⟨M12, hM12, h⟩ := bw_mlE h
      refine rw_m hM12.symm ?_
      refine rw_aload_n dX10_text_99 rfl rfl ?_
      refine rw_get dX10_text_100 fl_RX10_9 (sh_m w) (bw_kl (by decide)) rfl ?_
      refine rw_sipush (v := 158) dX10_text_103 (by decide) ?_
      refine rw_iconst (v := 2) dX10_text_106 (by decide) ?_
      refine rw_iload_n dX10_text_107 rfl rfl ?_
      refine rw_imul dX10_text_108 ?_
      refine rw_iadd dX10_text_109 ?_
      refine rw_iconst (v := 1) dX10_text_110 (by decide) ?_
      refine rw_iadd dX10_text_111 ?_
      refine rw_aload_n dX10_text_112 rfl rfl ?_
      refine rw_get dX10_text_113 fl_RX10_308 (sh_m w) (bw_kl (by decide)) rfl ?_
      obtain ⟨g13, h⟩ := bw_gd h
      refine rw_iast dX10_text_116 (sh_m_now w) (bw_kl (by decide)) (bw_in g13) ?_
      obtain ⟨M14, hM14, h⟩ := bw_mlE h
      refine rw_m hM14.symm ?_
      refine rw_iconst (v := 0) dX10_text_117 (by decide) ?_
      refine rw_istore_n dX10_text_118 rfl (by decide) ?_
      exact rw_sub (rw_lc rfl (rw_lc rfl (rw_lc rfl rw_lz))) (th_X10_text_L119 bw_fu (0 : Int32) M14 h)
    · have h := bw_it c9 h
      refine rw_ldc dX10_text_63 cn_RX10_126 ?_
      have h := Option.some.inj h
      subst h
      exact rw_iret dX10_text_65 ⟨rfl, rfl⟩
  · have h := bw_it c8 h
    refine rw_bipush (v := -100) dX10_text_43 (by decide) ?_
    refine rw_aload_n dX10_text_45 rfl rfl ?_
    refine rw_get dX10_text_46 fl_RX10_272 (sh_m w) (bw_kl (by decide)) rfl ?_
    refine rw_isub dX10_text_49 ?_
    have h := Option.some.inj h
    subst h
    exact rw_iret dX10_text_50 ⟨rfl, rfl⟩
set_option maxRecDepth 20000 in
set_option maxHeartbeats 1000000 in
theorem th_X10_text_J32 {w : WE} {M : Mem} {out : Int32 × Mem} (h : f_X10_text_J32 M = some out) : RW w 4 0 0 0 0 cX10_text RX10 4 (some .int) (bw_Z w (bw_pi (out.1) out.2)) 32 [(0, .ref (bw_ad w 93))] [] M := by
  unfold f_X10_text_J32 at h
  refine rw_iconst (v := 0) dX10_text_32 (by decide) ?_
  exact rw_sub (rw_lc rfl rw_lz) (th_X10_text_J33 h)
set_option maxRecDepth 20000 in
set_option maxHeartbeats 1000000 in
theorem ct_X10_text {w : WE} {M : Mem} {out : Int32 × Mem} (h : f_X10_text M = some out) : Ct w 4 yX10_text cX10_text 4 (some .int) [.ref (bw_ad w 93)] M (bw_pi (out.1) out.2) := by
  refine Ct.of (own := RX10) rfl (by decide) (by intro v hv; rw [List.mem_singleton.mp hv]; first | rfl | exact bw_cat_rf _) (Nat.le_of_ble_eq_true rfl) ?_
  unfold f_X10_text at h
  show RW w 4 0 0 0 0 cX10_text RX10 4 (some .int) (bw_Z w (bw_pi (out.1) out.2)) 0 [(0, .ref (bw_ad w 93))] [] M
  refine rw_aload_n dX10_text_0 rfl rfl ?_
  refine rw_iconst (v := 0) dX10_text_1 (by decide) ?_
  refine rw_puti dX10_text_2 fl_RX10_269 fp_10_27 (sh_m w) (bw_kl (by decide)) (by decide) (fun _ => rfl) (fun _ => Nat.le_of_ble_eq_true rfl) ?_
  obtain ⟨M1, hM1, h⟩ := bw_mlE h
  refine rw_m hM1.symm ?_
  refine rw_aload_n dX10_text_5 rfl rfl ?_
  refine rw_iconst (v := -1) dX10_text_6 (by decide) ?_
  refine rw_puti dX10_text_7 fl_RX10_275 fp_10_31 (sh_m w) (bw_kl (by decide)) (by decide) (fun _ => rfl) (fun _ => Nat.le_of_ble_eq_true rfl) ?_
  obtain ⟨M2, hM2, h⟩ := bw_mlE h
  refine rw_m hM2.symm ?_
  refine rw_aload_n dX10_text_10 rfl rfl ?_
  obtain ⟨q3, hq3, h⟩ := bw_bd h
  refine rw_callV0 dX10_text_11 ln_RX10_293 mv_X10_go (sh_m w) (bw_kl (by decide)) (ct_X10_go hq3) (Nat.le_of_ble_eq_true rfl) (Nat.le_of_ble_eq_true rfl) (bw_kkv ?_)
  refine rw_aload_n dX10_text_14 rfl rfl ?_
  obtain ⟨q4, hq4, h⟩ := bw_bd h
  refine rw_callV0 dX10_text_15 ln_RX10_325 mv_X10_takesKey (sh_m w) (bw_kl (by decide)) (ct_X10_takesKey hq4) (Nat.le_of_ble_eq_true rfl) (Nat.le_of_ble_eq_true rfl) (bw_kkz (fun z5 => ?_))
  refine rw_if_eq (tgt := 32) dX10_text_18 (by decide) (fun c6 => ?_) (fun c6 => ?_)
  · have h := bw_it c6 h
    exact rw_sub (rw_lc rfl rw_lz) (th_X10_text_J32 h)
  · have h := bw_if c6 h
    refine rw_aload_n dX10_text_21 rfl rfl ?_
    obtain ⟨q20, hq20, h⟩ := bw_bd h
    refine rw_callV0 dX10_text_22 ln_RX10_328 mv_X10_takesE (sh_m w) (bw_kl (by decide)) (ct_X10_takesE hq20) (Nat.le_of_ble_eq_true rfl) (Nat.le_of_ble_eq_true rfl) (bw_kkz (fun z21 => ?_))
    have key : RW w 4 0 0 0 0 cX10_text RX10 4 (some .int) (bw_Z w (bw_pi (out.1) out.2)) 33 [(0, .ref (bw_ad w 93))] [.int (if q20.1 = 0 then (0 : Int32) else (1 : Int32))] q20.2 := by
      exact rw_sub (rw_lc rfl rw_lz) (th_X10_text_J33 h)
    refine rw_if_eq (tgt := 32) dX10_text_25 (by decide) (fun c22 => ?_) (fun c22 => ?_)
    · refine rw_iconst (v := 0) dX10_text_32 (by decide) ?_
      simp only [if_pos c22] at key
      exact rw_sub (rw_lc rfl rw_lz) key
    · refine rw_iconst (v := 1) dX10_text_28 (by decide) ?_
      refine rw_goto (tgt := 33) dX10_text_29 (by decide) ?_
      simp only [if_neg c22] at key
      exact rw_sub (rw_lc rfl rw_lz) key
set_option maxRecDepth 20000 in
set_option maxHeartbeats 1000000 in
theorem ct_X10_textTold {w : WE} {M : Mem} {v1 : Int32} {v2 : Int32} {out : Int32} (h : f_X10_textTold M v1 v2 = some out) : Ct w 1 yX10_textTold cX10_textTold 3 (some .int) [.ref (bw_ad w 93), .int v1, .int v2] M (bw_pi (out) M) := by
  refine Ct.of (own := RX10) rfl (by decide) (by intro v hv; simp only [List.mem_cons, List.not_mem_nil, or_false] at hv; rcases hv with rfl | rfl | rfl <;> first | rfl | exact bw_cat_rf _) (Nat.le_of_ble_eq_true rfl) ?_
  unfold f_X10_textTold at h
  show RW w 1 0 0 0 0 cX10_textTold RX10 3 (some .int) (bw_Z w (bw_pi (out) M)) 0 [(0, .ref (bw_ad w 93)), (1, .int v1), (2, .int v2)] [] M
  refine rw_iload_n dX10_textTold_0 rfl rfl ?_
  refine rw_iconst (v := 0) dX10_textTold_1 (by decide) ?_
  refine rw_aload_n dX10_textTold_2 rfl rfl ?_
  refine rw_get dX10_textTold_3 fl_RX10_9 (sh_m w) (bw_kl (by decide)) rfl ?_
  refine rw_bipush (v := 6) dX10_textTold_6 (by decide) ?_
  refine rw_iald dX10_textTold_8 (sh_m_now w) (bw_kl (by decide)) (bw_in (show bw_ib (6 : Int32) 1530 = true by decide)) ?_
  refine rw_iconst (v := 1) dX10_textTold_9 (by decide) ?_
  refine rw_isub dX10_textTold_10 ?_
  refine rw_callS3 dX10_textTold_11 ln_RX10_117 ms_X10_in (ct_X10_in rfl) (Nat.le_of_ble_eq_true rfl) (Nat.le_of_ble_eq_true rfl) (bw_kkz (fun z1 => ?_))
  refine rw_if_eq (tgt := 26) dX10_textTold_14 (by decide) (fun c2 => ?_) (fun c2 => ?_)
  · have h := bw_it c2 h
    refine rw_ldc dX10_textTold_26 cn_RX10_125 ?_
    have h := Option.some.inj h
    subst h
    exact rw_iret dX10_textTold_28 ⟨rfl, rfl⟩
  · have h := bw_if c2 h
    refine rw_iload_n dX10_textTold_17 rfl rfl ?_
    refine rw_iconst (v := 0) dX10_textTold_18 (by decide) ?_
    refine rw_iconst (v := 1) dX10_textTold_19 (by decide) ?_
    refine rw_callS3 dX10_textTold_20 ln_RX10_117 ms_X10_in (ct_X10_in rfl) (Nat.le_of_ble_eq_true rfl) (Nat.le_of_ble_eq_true rfl) (bw_kkz (fun z3 => ?_))
    refine rw_if_ne (tgt := 29) dX10_textTold_23 (by decide) (fun c4 => ?_) (fun c4 => ?_)
    · have h := bw_if c4 h
      refine rw_iload_n dX10_textTold_29 rfl rfl ?_
      refine rw_if_ne (tgt := 52) dX10_textTold_30 (by decide) (fun c5 => ?_) (fun c5 => ?_)
      · have h := bw_if c5 h
        refine rw_aload_n dX10_textTold_52 rfl rfl ?_
        refine rw_get dX10_textTold_53 fl_RX10_9 (sh_m w) (bw_kl (by decide)) rfl ?_
        refine rw_sipush (v := 158) dX10_textTold_56 (by decide) ?_
        refine rw_iconst (v := 2) dX10_textTold_59 (by decide) ?_
        refine rw_iload_n dX10_textTold_60 rfl rfl ?_
        refine rw_imul dX10_textTold_61 ?_
        refine rw_iadd dX10_textTold_62 ?_
        refine rw_iconst (v := 1) dX10_textTold_63 (by decide) ?_
        refine rw_iadd dX10_textTold_64 ?_
        obtain ⟨g6, h⟩ := bw_gd h
        refine rw_iald dX10_textTold_65 (sh_m_now w) (bw_kl (by decide)) (bw_in g6) ?_
        have h := Option.some.inj h
        subst h
        exact rw_iret dX10_textTold_66 ⟨rfl, rfl⟩
      · have h := bw_it c5 h
        refine rw_aload_n dX10_textTold_33 rfl rfl ?_
        refine rw_get dX10_textTold_34 fl_RX10_9 (sh_m w) (bw_kl (by decide)) rfl ?_
        refine rw_sipush (v := 158) dX10_textTold_37 (by decide) ?_
        refine rw_iconst (v := 2) dX10_textTold_40 (by decide) ?_
        refine rw_iload_n dX10_textTold_41 rfl rfl ?_
        refine rw_imul dX10_textTold_42 ?_
        refine rw_iadd dX10_textTold_43 ?_
        obtain ⟨g7, h⟩ := bw_gd h
        refine rw_iald dX10_textTold_44 (sh_m_now w) (bw_kl (by decide)) (bw_in g7) ?_
        refine rw_sipush (v := 1000) dX10_textTold_45 (by decide) ?_
        refine rw_idiv dX10_textTold_48 (by decide) ?_
        refine rw_goto (tgt := 66) dX10_textTold_49 (by decide) ?_
        have h := Option.some.inj h
        subst h
        exact rw_iret dX10_textTold_66 ⟨rfl, rfl⟩
    · have h := bw_it c4 h
      refine rw_ldc dX10_textTold_26 cn_RX10_125 ?_
      have h := Option.some.inj h
      subst h
      exact rw_iret dX10_textTold_28 ⟨rfl, rfl⟩
set_option maxRecDepth 20000 in
set_option maxHeartbeats 1000000 in
theorem ct_X10_why {w : WE} {M : Mem} {v1 : Int32} {out : Int32} (h : f_X10_why M v1 = some out) : Ct w 1 yX10_why cX10_why 3 (some .int) [.ref (bw_ad w 93), .int v1] M (bw_pi (out) M) := by
  refine Ct.of (own := RX10) rfl (by decide) (by intro v hv; simp only [List.mem_cons, List.not_mem_nil, or_false] at hv; rcases hv with rfl | rfl <;> first | rfl | exact bw_cat_rf _) (Nat.le_of_ble_eq_true rfl) ?_
  unfold f_X10_why at h
  show RW w 1 0 0 0 0 cX10_why RX10 3 (some .int) (bw_Z w (bw_pi (out) M)) 0 [(0, .ref (bw_ad w 93)), (1, .int v1)] [] M
  refine rw_iload_n dX10_why_0 rfl rfl ?_
  refine rw_iconst (v := 0) dX10_why_1 (by decide) ?_
  refine rw_iconst (v := 2) dX10_why_2 (by decide) ?_
  refine rw_callS3 dX10_why_3 ln_RX10_117 ms_X10_in (ct_X10_in rfl) (Nat.le_of_ble_eq_true rfl) (Nat.le_of_ble_eq_true rfl) (bw_kkz (fun z1 => ?_))
  refine rw_if_ne (tgt := 12) dX10_why_6 (by decide) (fun c2 => ?_) (fun c2 => ?_)
  · have h := bw_if c2 h
    refine rw_aload_n dX10_why_12 rfl rfl ?_
    refine rw_iload_n dX10_why_13 rfl rfl ?_
    obtain ⟨q3, hq3, h⟩ := bw_bd h
    refine rw_callV1 dX10_why_14 ln_RX10_197 mv_X10_counts (sh_m w) (bw_kl (by decide)) (ct_X10_counts hq3) (Nat.le_of_ble_eq_true rfl) (Nat.le_of_ble_eq_true rfl) (bw_kki ?_)
    refine rw_istore_n dX10_why_17 rfl (by decide) ?_
    refine rw_iload_n dX10_why_18 rfl rfl ?_
    have key : RW w 1 0 0 0 0 cX10_why RX10 3 (some .int) (bw_Z w (bw_pi (out) M)) 28 [] [.int (if 0 ≤ q3 then q3 else (-1000000005 : Int32))] M := by
      have h := Option.some.inj h
      subst h
      exact rw_iret dX10_why_28 ⟨rfl, rfl⟩
    refine rw_if_ge (tgt := 27) dX10_why_19 (by decide) (fun c4 => ?_) (fun c4 => ?_)
    · refine rw_iload_n dX10_why_27 rfl rfl ?_
      simp only [if_pos c4] at key
      exact rw_sub rw_lz key
    · refine rw_ldc dX10_why_22 cn_RX10_145 ?_
      refine rw_goto (tgt := 28) dX10_why_24 (by decide) ?_
      simp only [if_neg c4] at key
      exact rw_sub rw_lz key
  · have h := bw_it c2 h
    refine rw_ldc dX10_why_9 cn_RX10_125 ?_
    have h := Option.some.inj h
    subst h
    exact rw_iret dX10_why_11 ⟨rfl, rfl⟩
set_option maxRecDepth 20000 in
set_option maxHeartbeats 1000000 in
theorem th_X10_beginsYears_L6 {w : WE} {out : Mem} : ∀ (n : Nat) (v1 : Int32) (M : Mem), f_X10_beginsYears_L6 n v1 M = some out → RW w 5 0 0 0 0 cX10_beginsYears RX10 2 none (bw_Z w (bw_pv out)) 6 [(0, .ref (bw_ad w 93)), (1, .int v1)] [] M := by
  intro n
  induction n with
  | zero => intro v1 M h; cases h
  | succ n ih =>
    intro v1 M h
    rw [f_X10_beginsYears_L6] at h
    refine rw_iload_n dX10_beginsYears_6 rfl rfl ?_
    refine rw_aload_n dX10_beginsYears_7 rfl rfl ?_
    refine rw_get dX10_beginsYears_8 fl_RX10_219 (sh_m w) (bw_kl (by decide)) rfl ?_
    refine rw_icmp_ge (tgt := 31) dX10_beginsYears_11 (by decide) (fun c2 => ?_) (fun c2 => ?_)
    · have h := bw_it c2 h
      have h := Option.some.inj h
      subst h
      exact rw_vret dX10_beginsYears_31 ⟨rfl, rfl⟩
    · have h := bw_if c2 h
      refine rw_aload_n dX10_beginsYears_14 rfl rfl ?_
      refine rw_get dX10_beginsYears_15 fl_RX10_84 (sh_m w) (bw_kl (by decide)) rfl ?_
      refine rw_iload_n dX10_beginsYears_18 rfl rfl ?_
      refine rw_aload_n dX10_beginsYears_19 rfl rfl ?_
      refine rw_iload_n dX10_beginsYears_20 rfl rfl ?_
      obtain ⟨q3, hq3, h⟩ := bw_bd h
      refine rw_callV1 dX10_beginsYears_21 ln_RX10_234 mv_X10_thickOf (sh_m w) (bw_kl (by decide)) (ct_X10_thickOf hq3) (Nat.le_of_ble_eq_true rfl) (Nat.le_of_ble_eq_true rfl) (bw_kki ?_)
      obtain ⟨g4, h⟩ := bw_gd h
      refine rw_iast dX10_beginsYears_24 (sh_m_full w) (bw_kl (by decide)) (bw_in g4) ?_
      obtain ⟨M5, hM5, h⟩ := bw_mlE h
      refine rw_m hM5.symm ?_
      refine rw_inc dX10_beginsYears_25 rfl (by decide) ?_
      refine rw_goto (tgt := 6) dX10_beginsYears_28 (by decide) ?_
      exact rw_sub (rw_lc rfl (rw_lc rfl rw_lz)) (ih (v1 + 1) M5 h)
set_option maxRecDepth 20000 in
set_option maxHeartbeats 1000000 in
theorem ct_X10_beginsYears {w : WE} {M : Mem} {out : Mem} (h : f_X10_beginsYears M = some out) : Ct w 5 yX10_beginsYears cX10_beginsYears 2 none [.ref (bw_ad w 93)] M (bw_pv out) := by
  refine Ct.of (own := RX10) rfl (by decide) (by intro v hv; rw [List.mem_singleton.mp hv]; first | rfl | exact bw_cat_rf _) (Nat.le_of_ble_eq_true rfl) ?_
  unfold f_X10_beginsYears at h
  show RW w 5 0 0 0 0 cX10_beginsYears RX10 2 none (bw_Z w (bw_pv out)) 0 [(0, .ref (bw_ad w 93))] [] M
  refine rw_aload_n dX10_beginsYears_0 rfl rfl ?_
  obtain ⟨q1, hq1, h⟩ := bw_bd h
  refine rw_callV0 dX10_beginsYears_1 ln_RX10_138 mv_X10_settles (sh_m w) (bw_kl (by decide)) (ct_X10_settles hq1) (Nat.le_of_ble_eq_true rfl) (Nat.le_of_ble_eq_true rfl) (bw_kkv ?_)
  refine rw_iconst (v := 0) dX10_beginsYears_4 (by decide) ?_
  refine rw_istore_n dX10_beginsYears_5 rfl (by decide) ?_
  exact rw_sub (rw_lc rfl (rw_lc rfl rw_lz)) (th_X10_beginsYears_L6 bw_fu (0 : Int32) q1 h)
set_option maxRecDepth 20000 in
set_option maxHeartbeats 1000000 in
theorem th_X10_growsIn_L20 {w : WE} {M : Mem} {v1 : Int32} {v2 : Int32} {v3 : Int32} {Z : Option Value → Heap → Prop} {out : Int32} : ∀ (n : Nat) (v4 : Int32) (v5 : Int32), f_X10_growsIn_L20 M v1 v2 v3 n v4 v5 = some out → RW w 2 0 0 0 0 cX10_growsIn RX10 6 none Z 57 [(0, .ref (bw_ad w 93)), (1, .int v1), (2, .int v2), (3, .int v3), (4, .int out)] [] M → RW w 2 0 0 0 0 cX10_growsIn RX10 6 none Z 20 [(0, .ref (bw_ad w 93)), (1, .int v1), (2, .int v2), (3, .int v3), (4, .int v4), (5, .int v5)] [] M := by
  intro n
  induction n with
  | zero => intro v4 v5 h hk; cases h
  | succ n ih =>
    intro v4 v5 h hk
    rw [f_X10_growsIn_L20] at h
    refine rw_iload dX10_growsIn_20 rfl ?_
    refine rw_aload_n dX10_growsIn_22 rfl rfl ?_
    refine rw_get dX10_growsIn_23 fl_RX10_9 (sh_m w) (bw_kl (by decide)) rfl ?_
    refine rw_iconst (v := 4) dX10_growsIn_26 (by decide) ?_
    refine rw_iald dX10_growsIn_27 (sh_m_now w) (bw_kl (by decide)) (bw_in (show bw_ib (4 : Int32) 1530 = true by decide)) ?_
    refine rw_icmp_ge (tgt := 57) dX10_growsIn_28 (by decide) (fun c3 => ?_) (fun c3 => ?_)
    · have h := bw_it c3 h
      have h := Option.some.inj h
      subst h
      exact rw_sub (rw_lc rfl (rw_lc rfl (rw_lc rfl (rw_lc rfl (rw_lc rfl rw_lz))))) hk
    · have h := bw_if c3 h
      refine rw_aload_n dX10_growsIn_31 rfl rfl ?_
      refine rw_iload dX10_growsIn_32 rfl ?_
      refine rw_iconst (v := 2) dX10_growsIn_34 (by decide) ?_
      obtain ⟨q4, hq4, h⟩ := bw_bd h
      refine rw_callV2 dX10_growsIn_35 ln_RX10_134 mv_X10_book4 (sh_m w) (bw_kl (by decide)) (ct_X10_book4 hq4) (Nat.le_of_ble_eq_true rfl) (Nat.le_of_ble_eq_true rfl) (bw_kki ?_)
      refine rw_iload_n dX10_growsIn_38 rfl rfl ?_
      have key : RW w 2 0 0 0 0 cX10_growsIn RX10 6 none Z 49 [(0, .ref (bw_ad w 93)), (1, .int v1), (2, .int v2), (3, .int v3), (5, .int v5)] [.int (if q4 = v3 then v5 else v4)] M := by
        refine rw_istore dX10_growsIn_49 (by decide) ?_
        refine rw_inc dX10_growsIn_51 rfl (by decide) ?_
        refine rw_goto (tgt := 20) dX10_growsIn_54 (by decide) ?_
        exact rw_sub (rw_lc rfl (rw_lc rfl (rw_lc rfl (rw_lc rfl (rw_lc rfl (rw_lc rfl rw_lz)))))) (ih (if q4 = v3 then v5 else v4) (v5 + 1) h hk)
      refine rw_icmp_ne (tgt := 47) dX10_growsIn_39 (by decide) (fun c5 => ?_) (fun c5 => ?_)
      · refine rw_iload dX10_growsIn_47 rfl ?_
        simp only [if_neg c5] at key
        exact rw_sub (rw_lc rfl (rw_lc rfl (rw_lc rfl (rw_lc rfl (rw_lc rfl rw_lz))))) key
      · refine rw_iload dX10_growsIn_42 rfl ?_
        refine rw_goto (tgt := 49) dX10_growsIn_44 (by decide) ?_
        simp only [if_pos c5] at key
        exact rw_sub (rw_lc rfl (rw_lc rfl (rw_lc rfl (rw_lc rfl (rw_lc rfl rw_lz))))) key
set_option maxRecDepth 20000 in
set_option maxHeartbeats 1000000 in
theorem th_X10_growsIn_L8 {w : WE} {v1 : Int32} {v2 : Int32} {out : Mem} : ∀ (n : Nat) (v3 : Int32) (M : Mem), f_X10_growsIn_L8 v1 v2 n v3 M = some out → RW w 2 0 0 0 0 cX10_growsIn RX10 6 none (bw_Z w (bw_pv out)) 8 [(0, .ref (bw_ad w 93)), (1, .int v1), (2, .int v2), (3, .int v3)] [] M := by
  intro n
  induction n with
  | zero => intro v3 M h; cases h
  | succ n ih =>
    intro v3 M h
    rw [f_X10_growsIn_L8] at h
    refine rw_iload_n dX10_growsIn_8 rfl rfl ?_
    refine rw_bipush (v := 8) dX10_growsIn_9 (by decide) ?_
    refine rw_icmp_ge (tgt := 116) dX10_growsIn_11 (by decide) (fun c2 => ?_) (fun c2 => ?_)
    · have h := bw_it c2 h
      have h := Option.some.inj h
      subst h
      exact rw_vret dX10_growsIn_116 ⟨rfl, rfl⟩
    · have h := bw_if c2 h
      refine rw_iconst (v := -1) dX10_growsIn_14 (by decide) ?_
      refine rw_istore dX10_growsIn_15 (by decide) ?_
      refine rw_iconst (v := 0) dX10_growsIn_17 (by decide) ?_
      refine rw_istore dX10_growsIn_18 (by decide) ?_
      obtain ⟨q6, hq6, h⟩ := bw_bd h
      refine rw_sub (rw_lc rfl (rw_lc rfl (rw_lc rfl (rw_lc rfl (rw_lc rfl (rw_lc rfl rw_lz)))))) (th_X10_growsIn_L20 bw_fu (-1 : Int32) (0 : Int32) hq6 ?_)
      refine rw_iload dX10_growsIn_57 rfl ?_
      refine rw_if_lt (tgt := 110) dX10_growsIn_59 (by decide) (fun c7 => ?_) (fun c7 => ?_)
      · have h := bw_it c7 h
        refine rw_inc dX10_growsIn_110 rfl (by decide) ?_
        refine rw_goto (tgt := 8) dX10_growsIn_113 (by decide) ?_
        exact rw_sub (rw_lc rfl (rw_lc rfl (rw_lc rfl (rw_lc rfl rw_lz)))) (ih (v3 + 1) M h)
      · have h := bw_if c7 h
        refine rw_aload_n dX10_growsIn_62 rfl rfl ?_
        refine rw_get dX10_growsIn_63 fl_RX10_81 (sh_m w) (bw_kl (by decide)) rfl ?_
        refine rw_iconst (v := 0) dX10_growsIn_66 (by decide) ?_
        refine rw_iload_n dX10_growsIn_67 rfl rfl ?_
        refine rw_iast dX10_growsIn_68 (sh_m_facts w) (bw_kl (by decide)) (bw_in (show bw_ib (0 : Int32) 4 = true by decide)) ?_
        obtain ⟨M8, hM8, h⟩ := bw_mlE h
        refine rw_m hM8.symm ?_
        refine rw_aload_n dX10_growsIn_69 rfl rfl ?_
        refine rw_get dX10_growsIn_70 fl_RX10_81 (sh_m w) (bw_kl (by decide)) rfl ?_
        refine rw_iconst (v := 1) dX10_growsIn_73 (by decide) ?_
        refine rw_iload_n dX10_growsIn_74 rfl rfl ?_
        refine rw_iast dX10_growsIn_75 (sh_m_facts w) (bw_kl (by decide)) (bw_in (show bw_ib (1 : Int32) 4 = true by decide)) ?_
        obtain ⟨M9, hM9, h⟩ := bw_mlE h
        refine rw_m hM9.symm ?_
        refine rw_aload_n dX10_growsIn_76 rfl rfl ?_
        refine rw_get dX10_growsIn_77 fl_RX10_84 (sh_m w) (bw_kl (by decide)) rfl ?_
        refine rw_aload_n dX10_growsIn_80 rfl rfl ?_
        refine rw_get dX10_growsIn_81 fl_RX10_47 (sh_m w) (bw_kl (by decide)) rfl ?_
        refine rw_iload dX10_growsIn_84 rfl ?_
        obtain ⟨g10, h⟩ := bw_gd h
        refine rw_iald dX10_growsIn_86 (sh_m_lineOf w) (bw_kl (by decide)) (bw_in g10) ?_
        refine rw_dup2 dX10_growsIn_87 rfl rfl ?_
        obtain ⟨g11, h⟩ := bw_gd h
        refine rw_iald dX10_growsIn_88 (sh_m_full w) (bw_kl (by decide)) (bw_in g11) ?_
        refine rw_iload_n dX10_growsIn_89 rfl rfl ?_
        refine rw_if_ge (tgt := 97) dX10_growsIn_90 (by decide) (fun c12 => ?_) (fun c12 => ?_)
        · have h := bw_it c12 h
          refine rw_aload_n dX10_growsIn_97 rfl rfl ?_
          refine rw_iload_n dX10_growsIn_98 rfl rfl ?_
          obtain ⟨q13, hq13, h⟩ := bw_bd h
          refine rw_callV1 dX10_growsIn_99 ln_RX10_200 mv_X10_worksOut (sh_m w) (bw_kl (by decide)) (ct_X10_worksOut hq13) (Nat.le_of_ble_eq_true rfl) (Nat.le_of_ble_eq_true rfl) (bw_kki ?_)
          refine rw_iconst (v := 0) dX10_growsIn_102 (by decide) ?_
          refine rw_bipush (v := 99) dX10_growsIn_103 (by decide) ?_
          refine rw_callS3 dX10_growsIn_105 ln_RX10_203 ms_X10_within (ct_X10_within rfl) (Nat.le_of_ble_eq_true rfl) (Nat.le_of_ble_eq_true rfl) (bw_kki ?_)
          refine rw_iadd dX10_growsIn_108 ?_
          refine rw_iast dX10_growsIn_109 (sh_m_full w) (bw_kl (by decide)) (bw_in g11) ?_
          obtain ⟨M14, hM14, h⟩ := bw_mlE h
          refine rw_m hM14.symm ?_
          refine rw_inc dX10_growsIn_110 rfl (by decide) ?_
          refine rw_goto (tgt := 8) dX10_growsIn_113 (by decide) ?_
          exact rw_sub (rw_lc rfl (rw_lc rfl (rw_lc rfl (rw_lc rfl rw_lz)))) (ih (v3 + 1) M14 h)
        · have h := bw_if c12 h
          refine rw_iconst (v := 1) dX10_growsIn_93 (by decide) ?_
          refine rw_goto (tgt := 108) dX10_growsIn_94 (by decide) ?_
          refine rw_iadd dX10_growsIn_108 ?_
          refine rw_iast dX10_growsIn_109 (sh_m_full w) (bw_kl (by decide)) (bw_in g11) ?_
          obtain ⟨M15, hM15, h⟩ := bw_mlE h
          refine rw_m hM15.symm ?_
          refine rw_inc dX10_growsIn_110 rfl (by decide) ?_
          refine rw_goto (tgt := 8) dX10_growsIn_113 (by decide) ?_
          exact rw_sub (rw_lc rfl (rw_lc rfl (rw_lc rfl (rw_lc rfl rw_lz)))) (ih (v3 + 1) M15 h)
set_option maxRecDepth 20000 in
set_option maxHeartbeats 1000000 in
theorem ct_X10_growsIn {w : WE} {M : Mem} {v1 : Int32} {out : Mem} (h : f_X10_growsIn M v1 = some out) : Ct w 2 yX10_growsIn cX10_growsIn 6 none [.ref (bw_ad w 93), .int v1] M (bw_pv out) := by
  refine Ct.of (own := RX10) rfl (by decide) (by intro v hv; simp only [List.mem_cons, List.not_mem_nil, or_false] at hv; rcases hv with rfl | rfl <;> first | rfl | exact bw_cat_rf _) (Nat.le_of_ble_eq_true rfl) ?_
  unfold f_X10_growsIn at h
  show RW w 2 0 0 0 0 cX10_growsIn RX10 6 none (bw_Z w (bw_pv out)) 0 [(0, .ref (bw_ad w 93)), (1, .int v1)] [] M
  refine rw_aload_n dX10_growsIn_0 rfl rfl ?_
  refine rw_iconst (v := 2) dX10_growsIn_1 (by decide) ?_
  obtain ⟨q1, hq1, h⟩ := bw_bd h
  refine rw_callV1 dX10_growsIn_2 ln_RX10_197 mv_X10_counts (sh_m w) (bw_kl (by decide)) (ct_X10_counts hq1) (Nat.le_of_ble_eq_true rfl) (Nat.le_of_ble_eq_true rfl) (bw_kki ?_)
  refine rw_istore_n dX10_growsIn_5 rfl (by decide) ?_
  refine rw_iconst (v := 0) dX10_growsIn_6 (by decide) ?_
  refine rw_istore_n dX10_growsIn_7 rfl (by decide) ?_
  exact rw_sub (rw_lc rfl (rw_lc rfl (rw_lc rfl (rw_lc rfl rw_lz)))) (th_X10_growsIn_L8 bw_fu (0 : Int32) M h)
set_option maxRecDepth 20000 in
set_option maxHeartbeats 1000000 in
theorem th_X10_mostFull_L4 {w : WE} {M : Mem} {out : Int32} : ∀ (n : Nat) (v1 : Int32) (v2 : Int32), f_X10_mostFull_L4 M n v1 v2 = some out → RW w 0 0 0 0 0 cX10_mostFull RX10 3 (some .int) (bw_Z w (bw_pi (out) M)) 4 [(0, .ref (bw_ad w 93)), (1, .int v1), (2, .int v2)] [] M := by
  intro n
  induction n with
  | zero => intro v1 v2 h; cases h
  | succ n ih =>
    intro v1 v2 h
    rw [f_X10_mostFull_L4] at h
    refine rw_iload_n dX10_mostFull_4 rfl rfl ?_
    refine rw_aload_n dX10_mostFull_5 rfl rfl ?_
    refine rw_get dX10_mostFull_6 fl_RX10_219 (sh_m w) (bw_kl (by decide)) rfl ?_
    refine rw_icmp_ge (tgt := 39) dX10_mostFull_9 (by decide) (fun c1 => ?_) (fun c1 => ?_)
    · have h := bw_it c1 h
      refine rw_iload_n dX10_mostFull_39 rfl rfl ?_
      have h := Option.some.inj h
      subst h
      exact rw_iret dX10_mostFull_40 ⟨rfl, rfl⟩
    · have h := bw_if c1 h
      refine rw_aload_n dX10_mostFull_12 rfl rfl ?_
      refine rw_get dX10_mostFull_13 fl_RX10_84 (sh_m w) (bw_kl (by decide)) rfl ?_
      refine rw_iload_n dX10_mostFull_16 rfl rfl ?_
      obtain ⟨g2, h⟩ := bw_gd h
      refine rw_iald dX10_mostFull_17 (sh_m_full w) (bw_kl (by decide)) (bw_in g2) ?_
      refine rw_aload_n dX10_mostFull_18 rfl rfl ?_
      refine rw_get dX10_mostFull_19 fl_RX10_84 (sh_m w) (bw_kl (by decide)) rfl ?_
      refine rw_iload_n dX10_mostFull_22 rfl rfl ?_
      obtain ⟨g3, h⟩ := bw_gd h
      refine rw_iald dX10_mostFull_23 (sh_m_full w) (bw_kl (by decide)) (bw_in g3) ?_
      have key : RW w 0 0 0 0 0 cX10_mostFull RX10 3 (some .int) (bw_Z w (bw_pi (out) M)) 32 [(0, .ref (bw_ad w 93)), (2, .int v2)] [.int (if (M 118 v2.toNatClampNeg) ≤ (M 118 v1.toNatClampNeg) then v1 else v2)] M := by
        obtain ⟨x5, hx5, h⟩ := bw_mlE h
        refine rw_ti hx5 ?_
        refine rw_istore_n dX10_mostFull_32 rfl (by decide) ?_
        refine rw_inc dX10_mostFull_33 rfl (by decide) ?_
        refine rw_goto (tgt := 4) dX10_mostFull_36 (by decide) ?_
        exact rw_sub (rw_lc rfl (rw_lc rfl (rw_lc rfl rw_lz))) (ih x5 (v2 + 1) h)
      refine rw_icmp_le (tgt := 31) dX10_mostFull_24 (by decide) (fun c4 => ?_) (fun c4 => ?_)
      · refine rw_iload_n dX10_mostFull_31 rfl rfl ?_
        simp only [if_pos c4] at key
        exact rw_sub (rw_lc rfl (rw_lc rfl rw_lz)) key
      · refine rw_iload_n dX10_mostFull_27 rfl rfl ?_
        refine rw_goto (tgt := 32) dX10_mostFull_28 (by decide) ?_
        simp only [if_neg c4] at key
        exact rw_sub (rw_lc rfl (rw_lc rfl rw_lz)) key
set_option maxRecDepth 20000 in
set_option maxHeartbeats 1000000 in
theorem ct_X10_mostFull {w : WE} {M : Mem} {out : Int32} (h : f_X10_mostFull M = some out) : Ct w 0 yX10_mostFull cX10_mostFull 3 (some .int) [.ref (bw_ad w 93)] M (bw_pi (out) M) := by
  refine Ct.of (own := RX10) rfl (by decide) (by intro v hv; rw [List.mem_singleton.mp hv]; first | rfl | exact bw_cat_rf _) (Nat.le_of_ble_eq_true rfl) ?_
  unfold f_X10_mostFull at h
  show RW w 0 0 0 0 0 cX10_mostFull RX10 3 (some .int) (bw_Z w (bw_pi (out) M)) 0 [(0, .ref (bw_ad w 93))] [] M
  refine rw_iconst (v := 0) dX10_mostFull_0 (by decide) ?_
  refine rw_istore_n dX10_mostFull_1 rfl (by decide) ?_
  refine rw_iconst (v := 1) dX10_mostFull_2 (by decide) ?_
  refine rw_istore_n dX10_mostFull_3 rfl (by decide) ?_
  exact rw_sub (rw_lc rfl (rw_lc rfl (rw_lc rfl rw_lz))) (th_X10_mostFull_L4 bw_fu (0 : Int32) (1 : Int32) h)
set_option maxRecDepth 20000 in
set_option maxHeartbeats 1000000 in
theorem th_X10_fullBy_L23 {w : WE} {out : Int32 × Mem} : ∀ (n : Nat) (v1 : Int32) (M : Mem), f_X10_fullBy_L23 n v1 M = some out → RW w 6 0 0 0 0 cX10_fullBy RX10 2 (some .int) (bw_Z w (bw_pi (out.1) out.2)) 23 [(0, .ref (bw_ad w 93)), (1, .int v1)] [] M := by
  intro n
  induction n with
  | zero => intro v1 M h; cases h
  | succ n ih =>
    intro v1 M h
    rw [f_X10_fullBy_L23] at h
    refine rw_iload_n dX10_fullBy_23 rfl rfl ?_
    refine rw_bipush (v := 60) dX10_fullBy_24 (by decide) ?_
    refine rw_icmp_gt (tgt := 60) dX10_fullBy_26 (by decide) (fun c4 => ?_) (fun c4 => ?_)
    · have h := bw_it c4 h
      refine rw_ldc dX10_fullBy_60 cn_RX10_145 ?_
      have h := Option.some.inj h
      subst h
      exact rw_iret dX10_fullBy_62 ⟨rfl, rfl⟩
    · have h := bw_if c4 h
      refine rw_aload_n dX10_fullBy_29 rfl rfl ?_
      refine rw_iload_n dX10_fullBy_30 rfl rfl ?_
      obtain ⟨q5, hq5, h⟩ := bw_bd h
      refine rw_callV1 dX10_fullBy_31 ln_RX10_337 mv_X10_growsIn (sh_m w) (bw_kl (by decide)) (ct_X10_growsIn hq5) (Nat.le_of_ble_eq_true rfl) (Nat.le_of_ble_eq_true rfl) (bw_kkv ?_)
      refine rw_aload_n dX10_fullBy_34 rfl rfl ?_
      refine rw_get dX10_fullBy_35 fl_RX10_84 (sh_m w) (bw_kl (by decide)) rfl ?_
      refine rw_aload_n dX10_fullBy_38 rfl rfl ?_
      obtain ⟨q6, hq6, h⟩ := bw_bd h
      refine rw_callV0 dX10_fullBy_39 ln_RX10_340 mv_X10_mostFull (sh_m w) (bw_kl (by decide)) (ct_X10_mostFull hq6) (Nat.le_of_ble_eq_true rfl) (Nat.le_of_ble_eq_true rfl) (bw_kki ?_)
      obtain ⟨g7, h⟩ := bw_gd h
      refine rw_iald dX10_fullBy_42 (sh_m_full w) (bw_kl (by decide)) (bw_in g7) ?_
      refine rw_aload_n dX10_fullBy_43 rfl rfl ?_
      refine rw_get dX10_fullBy_44 fl_RX10_9 (sh_m w) (bw_kl (by decide)) rfl ?_
      refine rw_iconst (v := 1) dX10_fullBy_47 (by decide) ?_
      refine rw_iald dX10_fullBy_48 (sh_m_now w) (bw_kl (by decide)) (bw_in (show bw_ib (1 : Int32) 1530 = true by decide)) ?_
      refine rw_icmp_le (tgt := 54) dX10_fullBy_49 (by decide) (fun c8 => ?_) (fun c8 => ?_)
      · have h := bw_it c8 h
        refine rw_inc dX10_fullBy_54 rfl (by decide) ?_
        refine rw_goto (tgt := 23) dX10_fullBy_57 (by decide) ?_
        exact rw_sub (rw_lc rfl (rw_lc rfl rw_lz)) (ih (v1 + 1) q5 h)
      · have h := bw_if c8 h
        refine rw_iload_n dX10_fullBy_52 rfl rfl ?_
        have h := Option.some.inj h
        subst h
        exact rw_iret dX10_fullBy_53 ⟨rfl, rfl⟩
set_option maxRecDepth 20000 in
set_option maxHeartbeats 1000000 in
theorem ct_X10_fullBy {w : WE} {M : Mem} {out : Int32 × Mem} (h : f_X10_fullBy M = some out) : Ct w 6 yX10_fullBy cX10_fullBy 2 (some .int) [.ref (bw_ad w 93)] M (bw_pi (out.1) out.2) := by
  refine Ct.of (own := RX10) rfl (by decide) (by intro v hv; rw [List.mem_singleton.mp hv]; first | rfl | exact bw_cat_rf _) (Nat.le_of_ble_eq_true rfl) ?_
  unfold f_X10_fullBy at h
  show RW w 6 0 0 0 0 cX10_fullBy RX10 2 (some .int) (bw_Z w (bw_pi (out.1) out.2)) 0 [(0, .ref (bw_ad w 93))] [] M
  refine rw_aload_n dX10_fullBy_0 rfl rfl ?_
  obtain ⟨q1, hq1, h⟩ := bw_bd h
  refine rw_callV0 dX10_fullBy_1 ln_RX10_334 mv_X10_beginsYears (sh_m w) (bw_kl (by decide)) (ct_X10_beginsYears hq1) (Nat.le_of_ble_eq_true rfl) (Nat.le_of_ble_eq_true rfl) (bw_kkv ?_)
  refine rw_aload_n dX10_fullBy_4 rfl rfl ?_
  refine rw_get dX10_fullBy_5 fl_RX10_141 (sh_m w) (bw_kl (by decide)) rfl ?_
  refine rw_if_lt (tgt := 18) dX10_fullBy_8 (by decide) (fun c2 => ?_) (fun c2 => ?_)
  · have h := bw_it c2 h
    refine rw_ldc dX10_fullBy_18 cn_RX10_145 ?_
    have h := Option.some.inj h
    subst h
    exact rw_iret dX10_fullBy_20 ⟨rfl, rfl⟩
  · have h := bw_if c2 h
    refine rw_aload_n dX10_fullBy_11 rfl rfl ?_
    refine rw_get dX10_fullBy_12 fl_RX10_219 (sh_m w) (bw_kl (by decide)) rfl ?_
    refine rw_if_ne (tgt := 21) dX10_fullBy_15 (by decide) (fun c3 => ?_) (fun c3 => ?_)
    · have h := bw_if c3 h
      refine rw_iconst (v := 1) dX10_fullBy_21 (by decide) ?_
      refine rw_istore_n dX10_fullBy_22 rfl (by decide) ?_
      exact rw_sub (rw_lc rfl (rw_lc rfl rw_lz)) (th_X10_fullBy_L23 bw_fu (1 : Int32) q1 h)
    · have h := bw_it c3 h
      refine rw_ldc dX10_fullBy_18 cn_RX10_145 ?_
      have h := Option.some.inj h
      subst h
      exact rw_iret dX10_fullBy_20 ⟨rfl, rfl⟩
set_option maxRecDepth 20000 in
set_option maxHeartbeats 1000000 in
theorem th_X10_most_L45 {w : WE} {v1 : Int32} {v2 : Int32} {out : Int32 × Mem} : ∀ (n : Nat) (v3 : Int32) (M : Mem), f_X10_most_L45 v1 v2 n v3 M = some out → RW w 6 0 0 0 0 cX10_most RX10 4 (some .int) (bw_Z w (bw_pi (out.1) out.2)) 45 [(0, .ref (bw_ad w 93)), (1, .int v1), (2, .int v2), (3, .int v3)] [] M := by
  intro n
  induction n with
  | zero => intro v3 M h; cases h
  | succ n ih =>
    intro v3 M h
    rw [f_X10_most_L45] at h
    refine rw_iload_n dX10_most_45 rfl rfl ?_
    refine rw_iload_n dX10_most_46 rfl rfl ?_
    refine rw_icmp_gt (tgt := 61) dX10_most_47 (by decide) (fun c8 => ?_) (fun c8 => ?_)
    · have h := bw_it c8 h
      refine rw_iload_n dX10_most_61 rfl rfl ?_
      refine rw_if_ne (tgt := 72) dX10_most_62 (by decide) (fun c9 => ?_) (fun c9 => ?_)
      · have h := bw_if c9 h
        refine rw_aload_n dX10_most_72 rfl rfl ?_
        refine rw_get dX10_most_73 fl_RX10_84 (sh_m w) (bw_kl (by decide)) rfl ?_
        refine rw_aload_n dX10_most_76 rfl rfl ?_
        obtain ⟨q10, hq10, h⟩ := bw_bd h
        refine rw_callV0 dX10_most_77 ln_RX10_340 mv_X10_mostFull (sh_m w) (bw_kl (by decide)) (ct_X10_mostFull hq10) (Nat.le_of_ble_eq_true rfl) (Nat.le_of_ble_eq_true rfl) (bw_kki ?_)
        obtain ⟨g11, h⟩ := bw_gd h
        refine rw_iald dX10_most_80 (sh_m_full w) (bw_kl (by decide)) (bw_in g11) ?_
        have h := Option.some.inj h
        subst h
        exact rw_iret dX10_most_81 ⟨rfl, rfl⟩
      · have h := bw_it c9 h
        refine rw_aload_n dX10_most_65 rfl rfl ?_
        obtain ⟨q12, hq12, h⟩ := bw_bd h
        refine rw_callV0 dX10_most_66 ln_RX10_340 mv_X10_mostFull (sh_m w) (bw_kl (by decide)) (ct_X10_mostFull hq12) (Nat.le_of_ble_eq_true rfl) (Nat.le_of_ble_eq_true rfl) (bw_kki ?_)
        refine rw_goto (tgt := 81) dX10_most_69 (by decide) ?_
        have h := Option.some.inj h
        subst h
        exact rw_iret dX10_most_81 ⟨rfl, rfl⟩
    · have h := bw_if c8 h
      refine rw_aload_n dX10_most_50 rfl rfl ?_
      refine rw_iload_n dX10_most_51 rfl rfl ?_
      obtain ⟨q13, hq13, h⟩ := bw_bd h
      refine rw_callV1 dX10_most_52 ln_RX10_337 mv_X10_growsIn (sh_m w) (bw_kl (by decide)) (ct_X10_growsIn hq13) (Nat.le_of_ble_eq_true rfl) (Nat.le_of_ble_eq_true rfl) (bw_kkv ?_)
      refine rw_inc dX10_most_55 rfl (by decide) ?_
      refine rw_goto (tgt := 45) dX10_most_58 (by decide) ?_
      exact rw_sub (rw_lc rfl (rw_lc rfl (rw_lc rfl (rw_lc rfl rw_lz)))) (ih (v3 + 1) q13 h)
set_option maxRecDepth 20000 in
set_option maxHeartbeats 1000000 in
theorem ct_X10_most {w : WE} {M : Mem} {v1 : Int32} {v2 : Int32} {out : Int32 × Mem} (h : f_X10_most M v1 v2 = some out) : Ct w 6 yX10_most cX10_most 4 (some .int) [.ref (bw_ad w 93), .int v1, .int v2] M (bw_pi (out.1) out.2) := by
  refine Ct.of (own := RX10) rfl (by decide) (by intro v hv; simp only [List.mem_cons, List.not_mem_nil, or_false] at hv; rcases hv with rfl | rfl | rfl <;> first | rfl | exact bw_cat_rf _) (Nat.le_of_ble_eq_true rfl) ?_
  unfold f_X10_most at h
  show RW w 6 0 0 0 0 cX10_most RX10 4 (some .int) (bw_Z w (bw_pi (out.1) out.2)) 0 [(0, .ref (bw_ad w 93)), (1, .int v1), (2, .int v2)] [] M
  refine rw_iload_n dX10_most_0 rfl rfl ?_
  refine rw_iconst (v := 0) dX10_most_1 (by decide) ?_
  refine rw_bipush (v := 60) dX10_most_2 (by decide) ?_
  refine rw_callS3 dX10_most_4 ln_RX10_117 ms_X10_in (ct_X10_in rfl) (Nat.le_of_ble_eq_true rfl) (Nat.le_of_ble_eq_true rfl) (bw_kkz (fun z1 => ?_))
  refine rw_if_eq (tgt := 19) dX10_most_7 (by decide) (fun c2 => ?_) (fun c2 => ?_)
  · have h := bw_it c2 h
    refine rw_ldc dX10_most_19 cn_RX10_125 ?_
    have h := Option.some.inj h
    subst h
    exact rw_iret dX10_most_21 ⟨rfl, rfl⟩
  · have h := bw_if c2 h
    refine rw_iload_n dX10_most_10 rfl rfl ?_
    refine rw_iconst (v := 0) dX10_most_11 (by decide) ?_
    refine rw_iconst (v := 1) dX10_most_12 (by decide) ?_
    refine rw_callS3 dX10_most_13 ln_RX10_117 ms_X10_in (ct_X10_in rfl) (Nat.le_of_ble_eq_true rfl) (Nat.le_of_ble_eq_true rfl) (bw_kkz (fun z3 => ?_))
    refine rw_if_ne (tgt := 22) dX10_most_16 (by decide) (fun c4 => ?_) (fun c4 => ?_)
    · have h := bw_if c4 h
      refine rw_aload_n dX10_most_22 rfl rfl ?_
      obtain ⟨q5, hq5, h⟩ := bw_bd h
      refine rw_callV0 dX10_most_23 ln_RX10_334 mv_X10_beginsYears (sh_m w) (bw_kl (by decide)) (ct_X10_beginsYears hq5) (Nat.le_of_ble_eq_true rfl) (Nat.le_of_ble_eq_true rfl) (bw_kkv ?_)
      refine rw_aload_n dX10_most_26 rfl rfl ?_
      refine rw_get dX10_most_27 fl_RX10_141 (sh_m w) (bw_kl (by decide)) rfl ?_
      refine rw_if_lt (tgt := 40) dX10_most_30 (by decide) (fun c6 => ?_) (fun c6 => ?_)
      · have h := bw_it c6 h
        refine rw_ldc dX10_most_40 cn_RX10_145 ?_
        have h := Option.some.inj h
        subst h
        exact rw_iret dX10_most_42 ⟨rfl, rfl⟩
      · have h := bw_if c6 h
        refine rw_aload_n dX10_most_33 rfl rfl ?_
        refine rw_get dX10_most_34 fl_RX10_219 (sh_m w) (bw_kl (by decide)) rfl ?_
        refine rw_if_ne (tgt := 43) dX10_most_37 (by decide) (fun c7 => ?_) (fun c7 => ?_)
        · have h := bw_if c7 h
          refine rw_iconst (v := 1) dX10_most_43 (by decide) ?_
          refine rw_istore_n dX10_most_44 rfl (by decide) ?_
          exact rw_sub (rw_lc rfl (rw_lc rfl (rw_lc rfl (rw_lc rfl rw_lz)))) (th_X10_most_L45 bw_fu (1 : Int32) q5 h)
        · have h := bw_it c7 h
          refine rw_ldc dX10_most_40 cn_RX10_145 ?_
          have h := Option.some.inj h
          subst h
          exact rw_iret dX10_most_42 ⟨rfl, rfl⟩
    · have h := bw_it c4 h
      refine rw_ldc dX10_most_19 cn_RX10_125 ?_
      have h := Option.some.inj h
      subst h
      exact rw_iret dX10_most_21 ⟨rfl, rfl⟩
set_option maxRecDepth 20000 in
set_option maxHeartbeats 1000000 in
theorem th_X10_wall_L31 {w : WE} {M : Mem} {v1 : Int32} {v2 : Int32} {out : Int32} : ∀ (n : Nat) (v3 : Int32) (v4 : Int32) (v5 : Int32), f_X10_wall_L31 M v1 v2 n v3 v4 v5 = some out → RW w 1 0 0 0 0 cX10_wall RX10 6 (some .int) (bw_Z w (bw_pi (out) M)) 31 [(0, .ref (bw_ad w 93)), (1, .int v1), (2, .int v2), (3, .int v3), (4, .int v4), (5, .int v5)] [] M := by
  intro n
  induction n with
  | zero => intro v3 v4 v5 h; cases h
  | succ n ih =>
    intro v3 v4 v5 h
    rw [f_X10_wall_L31] at h
    refine rw_iload dX10_wall_31 rfl ?_
    refine rw_aload_n dX10_wall_33 rfl rfl ?_
    refine rw_get dX10_wall_34 fl_RX10_9 (sh_m w) (bw_kl (by decide)) rfl ?_
    refine rw_iconst (v := 4) dX10_wall_37 (by decide) ?_
    refine rw_iald dX10_wall_38 (sh_m_now w) (bw_kl (by decide)) (bw_in (show bw_ib (4 : Int32) 1530 = true by decide)) ?_
    refine rw_icmp_ge (tgt := 118) dX10_wall_39 (by decide) (fun c5 => ?_) (fun c5 => ?_)
    · have h := bw_it c5 h
      refine rw_iload dX10_wall_118 rfl ?_
      have h := Option.some.inj h
      subst h
      exact rw_iret dX10_wall_120 ⟨rfl, rfl⟩
    · have h := bw_if c5 h
      refine rw_aload_n dX10_wall_42 rfl rfl ?_
      refine rw_iload dX10_wall_43 rfl ?_
      refine rw_iconst (v := 0) dX10_wall_45 (by decide) ?_
      obtain ⟨q6, hq6, h⟩ := bw_bd h
      refine rw_callV2 dX10_wall_46 ln_RX10_134 mv_X10_book4 (sh_m w) (bw_kl (by decide)) (ct_X10_book4 hq6) (Nat.le_of_ble_eq_true rfl) (Nat.le_of_ble_eq_true rfl) (bw_kki ?_)
      refine rw_iload_n dX10_wall_49 rfl rfl ?_
      refine rw_icmp_gt (tgt := 118) dX10_wall_50 (by decide) (fun c7 => ?_) (fun c7 => ?_)
      · have h := bw_it c7 h
        refine rw_iload dX10_wall_118 rfl ?_
        have h := Option.some.inj h
        subst h
        exact rw_iret dX10_wall_120 ⟨rfl, rfl⟩
      · have h := bw_if c7 h
        refine rw_aload_n dX10_wall_53 rfl rfl ?_
        refine rw_iload dX10_wall_54 rfl ?_
        refine rw_iconst (v := 1) dX10_wall_56 (by decide) ?_
        obtain ⟨q8, hq8, h⟩ := bw_bd h
        refine rw_callV2 dX10_wall_57 ln_RX10_134 mv_X10_book4 (sh_m w) (bw_kl (by decide)) (ct_X10_book4 hq8) (Nat.le_of_ble_eq_true rfl) (Nat.le_of_ble_eq_true rfl) (bw_kki ?_)
        refine rw_aload_n dX10_wall_60 rfl rfl ?_
        refine rw_get dX10_wall_61 fl_RX10_9 (sh_m w) (bw_kl (by decide)) rfl ?_
        refine rw_iconst (v := 1) dX10_wall_64 (by decide) ?_
        refine rw_iald dX10_wall_65 (sh_m_now w) (bw_kl (by decide)) (bw_in (show bw_ib (1 : Int32) 1530 = true by decide)) ?_
        refine rw_icmp_gt (tgt := 118) dX10_wall_66 (by decide) (fun c9 => ?_) (fun c9 => ?_)
        · have h := bw_it c9 h
          refine rw_iload dX10_wall_118 rfl ?_
          have h := Option.some.inj h
          subst h
          exact rw_iret dX10_wall_120 ⟨rfl, rfl⟩
        · have h := bw_if c9 h
          refine rw_aload_n dX10_wall_69 rfl rfl ?_
          refine rw_iload dX10_wall_70 rfl ?_
          refine rw_iconst (v := 1) dX10_wall_72 (by decide) ?_
          obtain ⟨q10, hq10, h⟩ := bw_bd h
          refine rw_callV2 dX10_wall_73 ln_RX10_134 mv_X10_book4 (sh_m w) (bw_kl (by decide)) (ct_X10_book4 hq10) (Nat.le_of_ble_eq_true rfl) (Nat.le_of_ble_eq_true rfl) (bw_kki ?_)
          refine rw_iload dX10_wall_76 rfl ?_
          refine rw_icmp_le (tgt := 100) dX10_wall_78 (by decide) (fun c11 => ?_) (fun c11 => ?_)
          · have h := bw_it c11 h
            refine rw_iload dX10_wall_100 rfl ?_
            refine rw_aload_n dX10_wall_102 rfl rfl ?_
            refine rw_iload dX10_wall_103 rfl ?_
            refine rw_iconst (v := 1) dX10_wall_105 (by decide) ?_
            obtain ⟨q12, hq12, h⟩ := bw_bd h
            refine rw_callV2 dX10_wall_106 ln_RX10_134 mv_X10_book4 (sh_m w) (bw_kl (by decide)) (ct_X10_book4 hq12) (Nat.le_of_ble_eq_true rfl) (Nat.le_of_ble_eq_true rfl) (bw_kki ?_)
            refine rw_isub dX10_wall_109 ?_
            refine rw_istore dX10_wall_110 (by decide) ?_
            refine rw_inc dX10_wall_112 rfl (by decide) ?_
            refine rw_goto (tgt := 31) dX10_wall_115 (by decide) ?_
            exact rw_sub (rw_lc rfl (rw_lc rfl (rw_lc rfl (rw_lc rfl (rw_lc rfl (rw_lc rfl rw_lz)))))) (ih v3 (v4 - q12) (v5 + 1) h)
          · have h := bw_if c11 h
            refine rw_inc dX10_wall_81 rfl (by decide) ?_
            refine rw_aload_n dX10_wall_84 rfl rfl ?_
            refine rw_get dX10_wall_85 fl_RX10_9 (sh_m w) (bw_kl (by decide)) rfl ?_
            refine rw_iconst (v := 1) dX10_wall_88 (by decide) ?_
            refine rw_iald dX10_wall_89 (sh_m_now w) (bw_kl (by decide)) (bw_in (show bw_ib (1 : Int32) 1530 = true by decide)) ?_
            refine rw_istore dX10_wall_90 (by decide) ?_
            refine rw_iload_n dX10_wall_92 rfl rfl ?_
            refine rw_iload_n dX10_wall_93 rfl rfl ?_
            refine rw_icmp_le (tgt := 100) dX10_wall_94 (by decide) (fun c13 => ?_) (fun c13 => ?_)
            · have h := bw_it c13 h
              refine rw_iload dX10_wall_100 rfl ?_
              refine rw_aload_n dX10_wall_102 rfl rfl ?_
              refine rw_iload dX10_wall_103 rfl ?_
              refine rw_iconst (v := 1) dX10_wall_105 (by decide) ?_
              obtain ⟨q14, hq14, h⟩ := bw_bd h
              refine rw_callV2 dX10_wall_106 ln_RX10_134 mv_X10_book4 (sh_m w) (bw_kl (by decide)) (ct_X10_book4 hq14) (Nat.le_of_ble_eq_true rfl) (Nat.le_of_ble_eq_true rfl) (bw_kki ?_)
              refine rw_isub dX10_wall_109 ?_
              obtain ⟨x15, hx15, h⟩ := bw_mlE h
              refine rw_ti hx15 ?_
              refine rw_istore dX10_wall_110 (by decide) ?_
              refine rw_inc dX10_wall_112 rfl (by decide) ?_
              refine rw_goto (tgt := 31) dX10_wall_115 (by decide) ?_
              exact rw_sub (rw_lc rfl (rw_lc rfl (rw_lc rfl (rw_lc rfl (rw_lc rfl (rw_lc rfl rw_lz)))))) (ih (v3 + 1) x15 (v5 + 1) h)
            · have h := bw_if c13 h
              refine rw_iload dX10_wall_97 rfl ?_
              have h := Option.some.inj h
              subst h
              exact rw_iret dX10_wall_99 ⟨rfl, rfl⟩
set_option maxRecDepth 20000 in
set_option maxHeartbeats 1000000 in
theorem ct_X10_wall {w : WE} {M : Mem} {v1 : Int32} {v2 : Int32} {out : Int32} (h : f_X10_wall M v1 v2 = some out) : Ct w 1 yX10_wall cX10_wall 6 (some .int) [.ref (bw_ad w 93), .int v1, .int v2] M (bw_pi (out) M) := by
  refine Ct.of (own := RX10) rfl (by decide) (by intro v hv; simp only [List.mem_cons, List.not_mem_nil, or_false] at hv; rcases hv with rfl | rfl | rfl <;> first | rfl | exact bw_cat_rf _) (Nat.le_of_ble_eq_true rfl) ?_
  unfold f_X10_wall at h
  show RW w 1 0 0 0 0 cX10_wall RX10 6 (some .int) (bw_Z w (bw_pi (out) M)) 0 [(0, .ref (bw_ad w 93)), (1, .int v1), (2, .int v2)] [] M
  refine rw_iload_n dX10_wall_0 rfl rfl ?_
  refine rw_iconst (v := 0) dX10_wall_1 (by decide) ?_
  refine rw_bipush (v := 24) dX10_wall_2 (by decide) ?_
  refine rw_callS3 dX10_wall_4 ln_RX10_117 ms_X10_in (ct_X10_in rfl) (Nat.le_of_ble_eq_true rfl) (Nat.le_of_ble_eq_true rfl) (bw_kkz (fun z1 => ?_))
  refine rw_if_eq (tgt := 20) dX10_wall_7 (by decide) (fun c2 => ?_) (fun c2 => ?_)
  · have h := bw_it c2 h
    refine rw_ldc dX10_wall_20 cn_RX10_125 ?_
    have h := Option.some.inj h
    subst h
    exact rw_iret dX10_wall_22 ⟨rfl, rfl⟩
  · have h := bw_if c2 h
    refine rw_iload_n dX10_wall_10 rfl rfl ?_
    refine rw_iconst (v := 1) dX10_wall_11 (by decide) ?_
    refine rw_bipush (v := 99) dX10_wall_12 (by decide) ?_
    refine rw_callS3 dX10_wall_14 ln_RX10_117 ms_X10_in (ct_X10_in rfl) (Nat.le_of_ble_eq_true rfl) (Nat.le_of_ble_eq_true rfl) (bw_kkz (fun z3 => ?_))
    refine rw_if_ne (tgt := 23) dX10_wall_17 (by decide) (fun c4 => ?_) (fun c4 => ?_)
    · have h := bw_if c4 h
      refine rw_iconst (v := 0) dX10_wall_23 (by decide) ?_
      refine rw_istore_n dX10_wall_24 rfl (by decide) ?_
      refine rw_iconst (v := 0) dX10_wall_25 (by decide) ?_
      refine rw_istore dX10_wall_26 (by decide) ?_
      refine rw_iconst (v := 0) dX10_wall_28 (by decide) ?_
      refine rw_istore dX10_wall_29 (by decide) ?_
      exact rw_sub (rw_lc rfl (rw_lc rfl (rw_lc rfl (rw_lc rfl (rw_lc rfl (rw_lc rfl rw_lz)))))) (th_X10_wall_L31 bw_fu (0 : Int32) (0 : Int32) (0 : Int32) h)
    · have h := bw_it c4 h
      refine rw_ldc dX10_wall_20 cn_RX10_125 ?_
      have h := Option.some.inj h
      subst h
      exact rw_iret dX10_wall_22 ⟨rfl, rfl⟩
set_option maxRecDepth 20000 in
set_option maxHeartbeats 1000000 in
theorem ct_X10_inch {w : WE} {M : Mem} {v1 : Int32} {out : Int32 × Mem} (h : f_X10_inch M v1 = some out) : Ct w 4 yX10_inch cX10_inch 4 (some .int) [.ref (bw_ad w 93), .int v1] M (bw_pi (out.1) out.2) := by
  refine Ct.of (own := RX10) rfl (by decide) (by intro v hv; simp only [List.mem_cons, List.not_mem_nil, or_false] at hv; rcases hv with rfl | rfl <;> first | rfl | exact bw_cat_rf _) (Nat.le_of_ble_eq_true rfl) ?_
  unfold f_X10_inch at h
  show RW w 4 0 0 0 0 cX10_inch RX10 4 (some .int) (bw_Z w (bw_pi (out.1) out.2)) 0 [(0, .ref (bw_ad w 93)), (1, .int v1)] [] M
  refine rw_iload_n dX10_inch_0 rfl rfl ?_
  refine rw_iconst (v := 1) dX10_inch_1 (by decide) ?_
  refine rw_aload_n dX10_inch_2 rfl rfl ?_
  refine rw_get dX10_inch_3 fl_RX10_9 (sh_m w) (bw_kl (by decide)) rfl ?_
  refine rw_iconst (v := 1) dX10_inch_6 (by decide) ?_
  refine rw_iald dX10_inch_7 (sh_m_now w) (bw_kl (by decide)) (bw_in (show bw_ib (1 : Int32) 1530 = true by decide)) ?_
  refine rw_isub dX10_inch_8 ?_
  refine rw_sipush (v := 999) dX10_inch_9 (by decide) ?_
  refine rw_aload_n dX10_inch_12 rfl rfl ?_
  refine rw_get dX10_inch_13 fl_RX10_9 (sh_m w) (bw_kl (by decide)) rfl ?_
  refine rw_iconst (v := 1) dX10_inch_16 (by decide) ?_
  refine rw_iald dX10_inch_17 (sh_m_now w) (bw_kl (by decide)) (bw_in (show bw_ib (1 : Int32) 1530 = true by decide)) ?_
  refine rw_isub dX10_inch_18 ?_
  refine rw_callS3 dX10_inch_19 ln_RX10_117 ms_X10_in (ct_X10_in rfl) (Nat.le_of_ble_eq_true rfl) (Nat.le_of_ble_eq_true rfl) (bw_kkz (fun z1 => ?_))
  refine rw_if_ne (tgt := 28) dX10_inch_22 (by decide) (fun c2 => ?_) (fun c2 => ?_)
  · have h := bw_if c2 h
    refine rw_aload_n dX10_inch_28 rfl rfl ?_
    obtain ⟨q3, hq3, h⟩ := bw_bd h
    refine rw_callV0 dX10_inch_29 ln_RX10_222 mv_X10_asks (sh_m w) (bw_kl (by decide)) (ct_X10_asks hq3) (Nat.le_of_ble_eq_true rfl) (Nat.le_of_ble_eq_true rfl) (bw_kkv ?_)
    refine rw_aload_n dX10_inch_32 rfl rfl ?_
    obtain ⟨q4, hq4, h⟩ := bw_bd h
    refine rw_callV0 dX10_inch_33 ln_RX10_225 mv_X10_takesAll (sh_m w) (bw_kl (by decide)) (ct_X10_takesAll hq4) (Nat.le_of_ble_eq_true rfl) (Nat.le_of_ble_eq_true rfl) (bw_kkv ?_)
    refine rw_aload_n dX10_inch_36 rfl rfl ?_
    obtain ⟨q5, hq5, h⟩ := bw_bd h
    refine rw_callV0 dX10_inch_37 ln_RX10_228 mv_X10_parts (sh_m w) (bw_kl (by decide)) (ct_X10_parts hq5) (Nat.le_of_ble_eq_true rfl) (Nat.le_of_ble_eq_true rfl) (bw_kki ?_)
    refine rw_istore_n dX10_inch_40 rfl (by decide) ?_
    refine rw_aload_n dX10_inch_41 rfl rfl ?_
    refine rw_dup dX10_inch_42 rfl ?_
    refine rw_get dX10_inch_43 fl_RX10_191 (sh_m w) (bw_kl (by decide)) rfl ?_
    refine rw_iload_n dX10_inch_46 rfl rfl ?_
    refine rw_iadd dX10_inch_47 ?_
    refine rw_puti dX10_inch_48 fl_RX10_191 fp_10_8 (sh_m w) (bw_kl (by decide)) (by decide) (fun _ => rfl) (fun _ => Nat.le_of_ble_eq_true rfl) ?_
    obtain ⟨M6, hM6, h⟩ := bw_mlE h
    refine rw_m hM6.symm ?_
    refine rw_aload_n dX10_inch_51 rfl rfl ?_
    obtain ⟨q7, hq7, h⟩ := bw_bd h
    refine rw_callV0 dX10_inch_52 ln_RX10_228 mv_X10_parts (sh_m w) (bw_kl (by decide)) (ct_X10_parts hq7) (Nat.le_of_ble_eq_true rfl) (Nat.le_of_ble_eq_true rfl) (bw_kki ?_)
    refine rw_istore_n dX10_inch_55 rfl (by decide) ?_
    refine rw_iload_n dX10_inch_56 rfl rfl ?_
    have key : RW w 4 0 0 0 0 cX10_inch RX10 4 (some .int) (bw_Z w (bw_pi (out.1) out.2)) 72 [] [.int (if q5.1 < 0 then (-1000000005 : Int32) else (if 0 ≤ q7.1 then q7.1 - q5.1 else (-1000000005 : Int32)))] q7.2 := by
      have h := Option.some.inj h
      subst h
      exact rw_iret dX10_inch_72 ⟨rfl, rfl⟩
    refine rw_if_lt (tgt := 64) dX10_inch_57 (by decide) (fun c8 => ?_) (fun c8 => ?_)
    · refine rw_ldc dX10_inch_64 cn_RX10_145 ?_
      refine rw_goto (tgt := 72) dX10_inch_66 (by decide) ?_
      simp only [if_pos c8] at key
      exact rw_sub rw_lz key
    · refine rw_iload_n dX10_inch_60 rfl rfl ?_
      refine rw_if_ge (tgt := 69) dX10_inch_61 (by decide) (fun c9 => ?_) (fun c9 => ?_)
      · refine rw_iload_n dX10_inch_69 rfl rfl ?_
        refine rw_iload_n dX10_inch_70 rfl rfl ?_
        refine rw_isub dX10_inch_71 ?_
        simp only [if_neg c8, if_pos c9] at key
        exact rw_sub rw_lz key
      · refine rw_ldc dX10_inch_64 cn_RX10_145 ?_
        refine rw_goto (tgt := 72) dX10_inch_66 (by decide) ?_
        simp only [if_neg c8, if_neg c9] at key
        exact rw_sub rw_lz key
  · have h := bw_it c2 h
    refine rw_ldc dX10_inch_25 cn_RX10_125 ?_
    have h := Option.some.inj h
    subst h
    exact rw_iret dX10_inch_27 ⟨rfl, rfl⟩
set_option maxRecDepth 20000 in
set_option maxHeartbeats 1000000 in
theorem th_X10_shift_L218 {w : WE} {M : Mem} {v1 : Int32} {out : Int32 × Mem} : ∀ (n : Nat) (v4 : Int32) (v5 : Int32), f_X10_shift_L218 M v1 n v4 v5 = some out → RW w 5 0 0 0 0 cX10_shift RX10 6 (some .int) (bw_Z w (bw_pi (out.1) out.2)) 218 [(0, .ref (bw_ad w 93)), (1, .int v1), (4, .int v4), (5, .int v5)] [] M := by
  intro n
  induction n with
  | zero => intro v4 v5 h; cases h
  | succ n ih =>
    intro v4 v5 h
    rw [f_X10_shift_L218] at h
    refine rw_iload dX10_shift_218 rfl ?_
    refine rw_aload_n dX10_shift_220 rfl rfl ?_
    refine rw_get dX10_shift_221 fl_RX10_9 (sh_m w) (bw_kl (by decide)) rfl ?_
    refine rw_iconst (v := 4) dX10_shift_224 (by decide) ?_
    refine rw_iald dX10_shift_225 (sh_m_now w) (bw_kl (by decide)) (bw_in (show bw_ib (4 : Int32) 1530 = true by decide)) ?_
    refine rw_icmp_ge (tgt := 275) dX10_shift_226 (by decide) (fun c16 => ?_) (fun c16 => ?_)
    · have h := bw_it c16 h
      refine rw_iload dX10_shift_275 rfl ?_
      have h := Option.some.inj h
      subst h
      exact rw_iret dX10_shift_277 ⟨rfl, rfl⟩
    · have h := bw_if c16 h
      refine rw_iload dX10_shift_229 rfl ?_
      refine rw_aload_n dX10_shift_231 rfl rfl ?_
      refine rw_get dX10_shift_232 fl_RX10_87 (sh_m w) (bw_kl (by decide)) rfl ?_
      refine rw_iload dX10_shift_235 rfl ?_
      obtain ⟨g17, h⟩ := bw_gd h
      refine rw_iald dX10_shift_237 (sh_m_were w) (bw_kl (by decide)) (bw_in g17) ?_
      refine rw_aload_n dX10_shift_238 rfl rfl ?_
      refine rw_get dX10_shift_239 fl_RX10_47 (sh_m w) (bw_kl (by decide)) rfl ?_
      refine rw_iload dX10_shift_242 rfl ?_
      refine rw_iload_n dX10_shift_244 rfl rfl ?_
      have key : RW w 5 0 0 0 0 cX10_shift RX10 6 (some .int) (bw_Z w (bw_pi (out.1) out.2)) 257 [(0, .ref (bw_ad w 93)), (1, .int v1), (5, .int v5)] [.int (if v1 ≤ v5 then v5 + (1 : Int32) else v5), .ref (bw_ad w 106), .int (M 119 v5.toNatClampNeg), .int v4] M := by
        obtain ⟨g19, h⟩ := bw_gd h
        refine rw_iald dX10_shift_257 (sh_m_lineOf w) (bw_kl (by decide)) (bw_in g19) ?_
        have key : RW w 5 0 0 0 0 cX10_shift RX10 6 (some .int) (bw_Z w (bw_pi (out.1) out.2)) 266 [(0, .ref (bw_ad w 93)), (1, .int v1), (5, .int v5)] [.int (if (M 119 v5.toNatClampNeg) = (M 106 (if v1 ≤ v5 then v5 + (1 : Int32) else v5).toNatClampNeg) then (0 : Int32) else (1 : Int32)), .int v4] M := by
          refine rw_iadd dX10_shift_266 ?_
          obtain ⟨x21, hx21, h⟩ := bw_mlE h
          refine rw_ti hx21 ?_
          refine rw_istore dX10_shift_267 (by decide) ?_
          refine rw_inc dX10_shift_269 rfl (by decide) ?_
          refine rw_goto (tgt := 218) dX10_shift_272 (by decide) ?_
          exact rw_sub (rw_lc rfl (rw_lc rfl (rw_lc rfl (rw_lc rfl rw_lz)))) (ih x21 (v5 + 1) h)
        refine rw_icmp_eq (tgt := 265) dX10_shift_258 (by decide) (fun c20 => ?_) (fun c20 => ?_)
        · refine rw_iconst (v := 0) dX10_shift_265 (by decide) ?_
          simp only [if_pos c20] at key
          exact rw_sub (rw_lc rfl (rw_lc rfl (rw_lc rfl rw_lz))) key
        · refine rw_iconst (v := 1) dX10_shift_261 (by decide) ?_
          refine rw_goto (tgt := 266) dX10_shift_262 (by decide) ?_
          simp only [if_neg c20] at key
          exact rw_sub (rw_lc rfl (rw_lc rfl (rw_lc rfl rw_lz))) key
      refine rw_icmp_ge (tgt := 253) dX10_shift_245 (by decide) (fun c18 => ?_) (fun c18 => ?_)
      · refine rw_iload dX10_shift_253 rfl ?_
        refine rw_iconst (v := 1) dX10_shift_255 (by decide) ?_
        refine rw_iadd dX10_shift_256 ?_
        simp only [if_pos c18] at key
        exact rw_sub (rw_lc rfl (rw_lc rfl (rw_lc rfl rw_lz))) key
      · refine rw_iload dX10_shift_248 rfl ?_
        refine rw_goto (tgt := 257) dX10_shift_250 (by decide) ?_
        simp only [if_neg c18] at key
        exact rw_sub (rw_lc rfl (rw_lc rfl (rw_lc rfl rw_lz))) key
set_option maxRecDepth 20000 in
set_option maxHeartbeats 1000000 in
theorem th_X10_shift_L97 {w : WE} {v1 : Int32} {v2 : Int32} {v3 : Int32} {out : Int32 × Mem} : ∀ (n : Nat) (v4 : Int32) (M : Mem), f_X10_shift_L97 v1 v2 v3 n v4 M = some out → RW w 5 0 0 0 0 cX10_shift RX10 6 (some .int) (bw_Z w (bw_pi (out.1) out.2)) 97 [(0, .ref (bw_ad w 93)), (1, .int v1), (2, .int v2), (3, .int v3), (4, .int v4)] [] M := by
  intro n
  induction n with
  | zero => intro v4 M h; cases h
  | succ n ih =>
    intro v4 M h
    rw [f_X10_shift_L97] at h
    refine rw_iload dX10_shift_97 rfl ?_
    refine rw_aload_n dX10_shift_99 rfl rfl ?_
    refine rw_get dX10_shift_100 fl_RX10_9 (sh_m w) (bw_kl (by decide)) rfl ?_
    refine rw_iconst (v := 4) dX10_shift_103 (by decide) ?_
    refine rw_iald dX10_shift_104 (sh_m_now w) (bw_kl (by decide)) (bw_in (show bw_ib (4 : Int32) 1530 = true by decide)) ?_
    refine rw_icmp_gt (tgt := 186) dX10_shift_105 (by decide) (fun c10 => ?_) (fun c10 => ?_)
    · have h := bw_it c10 h
      refine rw_aload_n dX10_shift_186 rfl rfl ?_
      refine rw_aload_n dX10_shift_187 rfl rfl ?_
      obtain ⟨q11, hq11, h⟩ := bw_bd h
      refine rw_callV0 dX10_shift_188 ln_RX10_228 mv_X10_parts (sh_m w) (bw_kl (by decide)) (ct_X10_parts hq11) (Nat.le_of_ble_eq_true rfl) (Nat.le_of_ble_eq_true rfl) (bw_kki ?_)
      refine rw_puti dX10_shift_191 fl_RX10_141 fp_10_16 (sh_m w) (bw_kl (by decide)) (by decide) (fun _ => rfl) (fun _ => Nat.le_of_ble_eq_true rfl) ?_
      obtain ⟨M12, hM12, h⟩ := bw_mlE h
      refine rw_m hM12.symm ?_
      refine rw_aload_n dX10_shift_194 rfl rfl ?_
      obtain ⟨q13, hq13, h⟩ := bw_bd h
      refine rw_callV0 dX10_shift_195 ln_RX10_231 mv_X10_tellsLines (sh_m w) (bw_kl (by decide)) (ct_X10_tellsLines hq13) (Nat.le_of_ble_eq_true rfl) (Nat.le_of_ble_eq_true rfl) (bw_kkv ?_)
      refine rw_iload_n dX10_shift_198 rfl rfl ?_
      refine rw_if_eq (tgt := 209) dX10_shift_199 (by decide) (fun c14 => ?_) (fun c14 => ?_)
      · have h := bw_it c14 h
        refine rw_ldc dX10_shift_209 cn_RX10_145 ?_
        have h := Option.some.inj h
        subst h
        exact rw_iret dX10_shift_211 ⟨rfl, rfl⟩
      · have h := bw_if c14 h
        refine rw_aload_n dX10_shift_202 rfl rfl ?_
        refine rw_get dX10_shift_203 fl_RX10_141 (sh_m w) (bw_kl (by decide)) rfl ?_
        refine rw_if_ge (tgt := 212) dX10_shift_206 (by decide) (fun c15 => ?_) (fun c15 => ?_)
        · have h := bw_it c15 h
          refine rw_iconst (v := 0) dX10_shift_212 (by decide) ?_
          refine rw_istore dX10_shift_213 (by decide) ?_
          refine rw_iconst (v := 0) dX10_shift_215 (by decide) ?_
          refine rw_istore dX10_shift_216 (by decide) ?_
          exact rw_sub (rw_lc rfl (rw_lc rfl (rw_lc rfl (rw_lc rfl rw_lz)))) (th_X10_shift_L218 bw_fu (0 : Int32) (0 : Int32) h)
        · have h := bw_if c15 h
          refine rw_ldc dX10_shift_209 cn_RX10_145 ?_
          have h := Option.some.inj h
          subst h
          exact rw_iret dX10_shift_211 ⟨rfl, rfl⟩
    · have h := bw_if c10 h
      refine rw_iload dX10_shift_108 rfl ?_
      refine rw_iload_n dX10_shift_110 rfl rfl ?_
      refine rw_icmp_ne (tgt := 127) dX10_shift_111 (by decide) (fun c22 => ?_) (fun c22 => ?_)
      · have h := bw_if c22 h
        refine rw_iload dX10_shift_127 rfl ?_
        refine rw_aload_n dX10_shift_129 rfl rfl ?_
        refine rw_get dX10_shift_130 fl_RX10_9 (sh_m w) (bw_kl (by decide)) rfl ?_
        refine rw_iconst (v := 4) dX10_shift_133 (by decide) ?_
        refine rw_iald dX10_shift_134 (sh_m_now w) (bw_kl (by decide)) (bw_in (show bw_ib (4 : Int32) 1530 = true by decide)) ?_
        refine rw_icmp_ge (tgt := 180) dX10_shift_135 (by decide) (fun c23 => ?_) (fun c23 => ?_)
        · have h := bw_it c23 h
          refine rw_inc dX10_shift_180 rfl (by decide) ?_
          refine rw_goto (tgt := 97) dX10_shift_183 (by decide) ?_
          exact rw_sub (rw_lc rfl (rw_lc rfl (rw_lc rfl (rw_lc rfl (rw_lc rfl rw_lz))))) (ih (v4 + 1) M h)
        · have h := bw_if c23 h
          refine rw_aload_n dX10_shift_138 rfl rfl ?_
          refine rw_aload_n dX10_shift_139 rfl rfl ?_
          refine rw_iload dX10_shift_140 rfl ?_
          refine rw_iconst (v := 0) dX10_shift_142 (by decide) ?_
          obtain ⟨q24, hq24, h⟩ := bw_bd h
          refine rw_callV2 dX10_shift_143 ln_RX10_134 mv_X10_book4 (sh_m w) (bw_kl (by decide)) (ct_X10_book4 hq24) (Nat.le_of_ble_eq_true rfl) (Nat.le_of_ble_eq_true rfl) (bw_kki ?_)
          refine rw_aload_n dX10_shift_146 rfl rfl ?_
          refine rw_iload dX10_shift_147 rfl ?_
          refine rw_iconst (v := 1) dX10_shift_149 (by decide) ?_
          obtain ⟨q25, hq25, h⟩ := bw_bd h
          refine rw_callV2 dX10_shift_150 ln_RX10_134 mv_X10_book4 (sh_m w) (bw_kl (by decide)) (ct_X10_book4 hq25) (Nat.le_of_ble_eq_true rfl) (Nat.le_of_ble_eq_true rfl) (bw_kki ?_)
          refine rw_aload_n dX10_shift_153 rfl rfl ?_
          refine rw_iload dX10_shift_154 rfl ?_
          refine rw_iconst (v := 3) dX10_shift_156 (by decide) ?_
          obtain ⟨q26, hq26, h⟩ := bw_bd h
          refine rw_callV2 dX10_shift_157 ln_RX10_134 mv_X10_book4 (sh_m w) (bw_kl (by decide)) (ct_X10_book4 hq26) (Nat.le_of_ble_eq_true rfl) (Nat.le_of_ble_eq_true rfl) (bw_kki ?_)
          refine rw_iconst (v := 1) dX10_shift_160 (by decide) ?_
          have key : RW w 5 0 0 0 0 cX10_shift RX10 6 (some .int) (bw_Z w (bw_pi (out.1) out.2)) 177 [(0, .ref (bw_ad w 93)), (1, .int v1), (2, .int v2), (3, .int v3), (4, .int v4)] [.int (if q26 = (1 : Int32) then (if v4 = (v1 - (1 : Int32)) then (0 : Int32) else (1 : Int32)) else (0 : Int32)), .int q25, .int q24, .ref (bw_ad w 93)] M := by
            obtain ⟨q29, hq29, h⟩ := bw_bd h
            refine rw_callV3 dX10_shift_177 ln_RX10_209 mv_X10_takesBook (sh_m w) (bw_kl (by decide)) (ct_X10_takesBook hq29) (Nat.le_of_ble_eq_true rfl) (Nat.le_of_ble_eq_true rfl) (bw_kkv ?_)
            refine rw_inc dX10_shift_180 rfl (by decide) ?_
            refine rw_goto (tgt := 97) dX10_shift_183 (by decide) ?_
            exact rw_sub (rw_lc rfl (rw_lc rfl (rw_lc rfl (rw_lc rfl (rw_lc rfl rw_lz))))) (ih (v4 + 1) q29 h)
          refine rw_icmp_ne (tgt := 176) dX10_shift_161 (by decide) (fun c27 => ?_) (fun c27 => ?_)
          · refine rw_iconst (v := 0) dX10_shift_176 (by decide) ?_
            simp only [if_neg c27] at key
            exact rw_sub (rw_lc rfl (rw_lc rfl (rw_lc rfl (rw_lc rfl (rw_lc rfl rw_lz))))) key
          · refine rw_iload dX10_shift_164 rfl ?_
            refine rw_iload_n dX10_shift_166 rfl rfl ?_
            refine rw_iconst (v := 1) dX10_shift_167 (by decide) ?_
            refine rw_isub dX10_shift_168 ?_
            refine rw_icmp_eq (tgt := 176) dX10_shift_169 (by decide) (fun c28 => ?_) (fun c28 => ?_)
            · refine rw_iconst (v := 0) dX10_shift_176 (by decide) ?_
              simp only [if_pos c27, if_pos c28] at key
              exact rw_sub (rw_lc rfl (rw_lc rfl (rw_lc rfl (rw_lc rfl (rw_lc rfl rw_lz))))) key
            · refine rw_iconst (v := 1) dX10_shift_172 (by decide) ?_
              refine rw_goto (tgt := 177) dX10_shift_173 (by decide) ?_
              simp only [if_pos c27, if_neg c28] at key
              exact rw_sub (rw_lc rfl (rw_lc rfl (rw_lc rfl (rw_lc rfl (rw_lc rfl rw_lz))))) key
      · have h := bw_it c22 h
        refine rw_aload_n dX10_shift_114 rfl rfl ?_
        refine rw_iload_n dX10_shift_115 rfl rfl ?_
        refine rw_bipush (v := 100) dX10_shift_116 (by decide) ?_
        refine rw_idiv dX10_shift_118 (by decide) ?_
        refine rw_iload_n dX10_shift_119 rfl rfl ?_
        refine rw_bipush (v := 100) dX10_shift_120 (by decide) ?_
        refine rw_irem dX10_shift_122 (by decide) ?_
        refine rw_iconst (v := 0) dX10_shift_123 (by decide) ?_
        obtain ⟨q30, hq30, h⟩ := bw_bd h
        refine rw_callV3 dX10_shift_124 ln_RX10_209 mv_X10_takesBook (sh_m w) (bw_kl (by decide)) (ct_X10_takesBook hq30) (Nat.le_of_ble_eq_true rfl) (Nat.le_of_ble_eq_true rfl) (bw_kkv ?_)
        refine rw_iload dX10_shift_127 rfl ?_
        refine rw_aload_n dX10_shift_129 rfl rfl ?_
        refine rw_get dX10_shift_130 fl_RX10_9 (sh_m w) (bw_kl (by decide)) rfl ?_
        refine rw_iconst (v := 4) dX10_shift_133 (by decide) ?_
        refine rw_iald dX10_shift_134 (sh_m_now w) (bw_kl (by decide)) (bw_in (show bw_ib (4 : Int32) 1530 = true by decide)) ?_
        refine rw_icmp_ge (tgt := 180) dX10_shift_135 (by decide) (fun c31 => ?_) (fun c31 => ?_)
        · have h := bw_it c31 h
          refine rw_inc dX10_shift_180 rfl (by decide) ?_
          refine rw_goto (tgt := 97) dX10_shift_183 (by decide) ?_
          exact rw_sub (rw_lc rfl (rw_lc rfl (rw_lc rfl (rw_lc rfl (rw_lc rfl rw_lz))))) (ih (v4 + 1) q30 h)
        · have h := bw_if c31 h
          refine rw_aload_n dX10_shift_138 rfl rfl ?_
          refine rw_aload_n dX10_shift_139 rfl rfl ?_
          refine rw_iload dX10_shift_140 rfl ?_
          refine rw_iconst (v := 0) dX10_shift_142 (by decide) ?_
          obtain ⟨q32, hq32, h⟩ := bw_bd h
          refine rw_callV2 dX10_shift_143 ln_RX10_134 mv_X10_book4 (sh_m w) (bw_kl (by decide)) (ct_X10_book4 hq32) (Nat.le_of_ble_eq_true rfl) (Nat.le_of_ble_eq_true rfl) (bw_kki ?_)
          refine rw_aload_n dX10_shift_146 rfl rfl ?_
          refine rw_iload dX10_shift_147 rfl ?_
          refine rw_iconst (v := 1) dX10_shift_149 (by decide) ?_
          obtain ⟨q33, hq33, h⟩ := bw_bd h
          refine rw_callV2 dX10_shift_150 ln_RX10_134 mv_X10_book4 (sh_m w) (bw_kl (by decide)) (ct_X10_book4 hq33) (Nat.le_of_ble_eq_true rfl) (Nat.le_of_ble_eq_true rfl) (bw_kki ?_)
          refine rw_aload_n dX10_shift_153 rfl rfl ?_
          refine rw_iload dX10_shift_154 rfl ?_
          refine rw_iconst (v := 3) dX10_shift_156 (by decide) ?_
          obtain ⟨q34, hq34, h⟩ := bw_bd h
          refine rw_callV2 dX10_shift_157 ln_RX10_134 mv_X10_book4 (sh_m w) (bw_kl (by decide)) (ct_X10_book4 hq34) (Nat.le_of_ble_eq_true rfl) (Nat.le_of_ble_eq_true rfl) (bw_kki ?_)
          refine rw_iconst (v := 1) dX10_shift_160 (by decide) ?_
          have key : RW w 5 0 0 0 0 cX10_shift RX10 6 (some .int) (bw_Z w (bw_pi (out.1) out.2)) 177 [(0, .ref (bw_ad w 93)), (1, .int v1), (2, .int v2), (3, .int v3), (4, .int v4)] [.int (if q34 = (1 : Int32) then (if v4 = (v1 - (1 : Int32)) then (0 : Int32) else (1 : Int32)) else (0 : Int32)), .int q33, .int q32, .ref (bw_ad w 93)] q30 := by
            obtain ⟨q37, hq37, h⟩ := bw_bd h
            refine rw_callV3 dX10_shift_177 ln_RX10_209 mv_X10_takesBook (sh_m w) (bw_kl (by decide)) (ct_X10_takesBook hq37) (Nat.le_of_ble_eq_true rfl) (Nat.le_of_ble_eq_true rfl) (bw_kkv ?_)
            refine rw_inc dX10_shift_180 rfl (by decide) ?_
            refine rw_goto (tgt := 97) dX10_shift_183 (by decide) ?_
            exact rw_sub (rw_lc rfl (rw_lc rfl (rw_lc rfl (rw_lc rfl (rw_lc rfl rw_lz))))) (ih (v4 + 1) q37 h)
          refine rw_icmp_ne (tgt := 176) dX10_shift_161 (by decide) (fun c35 => ?_) (fun c35 => ?_)
          · refine rw_iconst (v := 0) dX10_shift_176 (by decide) ?_
            simp only [if_neg c35] at key
            exact rw_sub (rw_lc rfl (rw_lc rfl (rw_lc rfl (rw_lc rfl (rw_lc rfl rw_lz))))) key
          · refine rw_iload dX10_shift_164 rfl ?_
            refine rw_iload_n dX10_shift_166 rfl rfl ?_
            refine rw_iconst (v := 1) dX10_shift_167 (by decide) ?_
            refine rw_isub dX10_shift_168 ?_
            refine rw_icmp_eq (tgt := 176) dX10_shift_169 (by decide) (fun c36 => ?_) (fun c36 => ?_)
            · refine rw_iconst (v := 0) dX10_shift_176 (by decide) ?_
              simp only [if_pos c35, if_pos c36] at key
              exact rw_sub (rw_lc rfl (rw_lc rfl (rw_lc rfl (rw_lc rfl (rw_lc rfl rw_lz))))) key
            · refine rw_iconst (v := 1) dX10_shift_172 (by decide) ?_
              refine rw_goto (tgt := 177) dX10_shift_173 (by decide) ?_
              simp only [if_pos c35, if_neg c36] at key
              exact rw_sub (rw_lc rfl (rw_lc rfl (rw_lc rfl (rw_lc rfl (rw_lc rfl rw_lz))))) key
set_option maxRecDepth 20000 in
set_option maxHeartbeats 1000000 in
theorem th_X10_shift_L58 {w : WE} {v1 : Int32} {v2 : Int32} {v3 : Int32} {out : Int32 × Mem} : ∀ (n : Nat) (v4 : Int32) (M : Mem), f_X10_shift_L58 v1 v2 v3 n v4 M = some out → RW w 5 0 0 0 0 cX10_shift RX10 6 (some .int) (bw_Z w (bw_pi (out.1) out.2)) 58 [(0, .ref (bw_ad w 93)), (1, .int v1), (2, .int v2), (3, .int v3), (4, .int v4)] [] M := by
  intro n
  induction n with
  | zero => intro v4 M h; cases h
  | succ n ih =>
    intro v4 M h
    rw [f_X10_shift_L58] at h
    refine rw_iload dX10_shift_58 rfl ?_
    refine rw_aload_n dX10_shift_60 rfl rfl ?_
    refine rw_get dX10_shift_61 fl_RX10_9 (sh_m w) (bw_kl (by decide)) rfl ?_
    refine rw_iconst (v := 4) dX10_shift_64 (by decide) ?_
    refine rw_iald dX10_shift_65 (sh_m_now w) (bw_kl (by decide)) (bw_in (show bw_ib (4 : Int32) 1530 = true by decide)) ?_
    refine rw_icmp_ge (tgt := 89) dX10_shift_66 (by decide) (fun c8 => ?_) (fun c8 => ?_)
    · have h := bw_it c8 h
      refine rw_aload_n dX10_shift_89 rfl rfl ?_
      refine rw_iconst (v := 0) dX10_shift_90 (by decide) ?_
      refine rw_puti dX10_shift_91 fl_RX10_206 fp_10_7 (sh_m w) (bw_kl (by decide)) (by decide) (fun _ => rfl) (fun _ => Nat.le_of_ble_eq_true rfl) ?_
      obtain ⟨M9, hM9, h⟩ := bw_mlE h
      refine rw_m hM9.symm ?_
      refine rw_iconst (v := 0) dX10_shift_94 (by decide) ?_
      refine rw_istore dX10_shift_95 (by decide) ?_
      exact rw_sub (rw_lc rfl (rw_lc rfl (rw_lc rfl (rw_lc rfl (rw_lc rfl rw_lz))))) (th_X10_shift_L97 bw_fu (0 : Int32) M9 h)
    · have h := bw_if c8 h
      refine rw_aload_n dX10_shift_69 rfl rfl ?_
      refine rw_get dX10_shift_70 fl_RX10_87 (sh_m w) (bw_kl (by decide)) rfl ?_
      refine rw_iload dX10_shift_73 rfl ?_
      refine rw_aload_n dX10_shift_75 rfl rfl ?_
      refine rw_get dX10_shift_76 fl_RX10_47 (sh_m w) (bw_kl (by decide)) rfl ?_
      refine rw_iload dX10_shift_79 rfl ?_
      obtain ⟨g38, h⟩ := bw_gd h
      refine rw_iald dX10_shift_81 (sh_m_lineOf w) (bw_kl (by decide)) (bw_in g38) ?_
      refine rw_iast dX10_shift_82 (sh_m_were w) (bw_kl (by decide)) (bw_in g38) ?_
      obtain ⟨M39, hM39, h⟩ := bw_mlE h
      refine rw_m hM39.symm ?_
      refine rw_inc dX10_shift_83 rfl (by decide) ?_
      refine rw_goto (tgt := 58) dX10_shift_86 (by decide) ?_
      exact rw_sub (rw_lc rfl (rw_lc rfl (rw_lc rfl (rw_lc rfl (rw_lc rfl rw_lz))))) (ih (v4 + 1) M39 h)
set_option maxRecDepth 20000 in
set_option maxHeartbeats 1000000 in
theorem th_X10_shift_J54 {w : WE} {M : Mem} {v1 : Int32} {v2 : Int32} {s0 : Int32} {out : Int32 × Mem} (h : f_X10_shift_J54 M v1 v2 s0 = some out) : RW w 5 0 0 0 0 cX10_shift RX10 6 (some .int) (bw_Z w (bw_pi (out.1) out.2)) 54 [(0, .ref (bw_ad w 93)), (1, .int v1), (2, .int v2)] [.int s0] M := by
  unfold f_X10_shift_J54 at h
  refine rw_istore_n dX10_shift_54 rfl (by decide) ?_
  refine rw_iconst (v := 0) dX10_shift_55 (by decide) ?_
  refine rw_istore dX10_shift_56 (by decide) ?_
  exact rw_sub (rw_lc rfl (rw_lc rfl (rw_lc rfl (rw_lc rfl (rw_lc rfl rw_lz))))) (th_X10_shift_L58 bw_fu (0 : Int32) M h)
set_option maxRecDepth 20000 in
set_option maxHeartbeats 1000000 in
theorem ct_X10_shift {w : WE} {M : Mem} {v1 : Int32} {v2 : Int32} {out : Int32 × Mem} (h : f_X10_shift M v1 v2 = some out) : Ct w 5 yX10_shift cX10_shift 6 (some .int) [.ref (bw_ad w 93), .int v1, .int v2] M (bw_pi (out.1) out.2) := by
  refine Ct.of (own := RX10) rfl (by decide) (by intro v hv; simp only [List.mem_cons, List.not_mem_nil, or_false] at hv; rcases hv with rfl | rfl | rfl <;> first | rfl | exact bw_cat_rf _) (Nat.le_of_ble_eq_true rfl) ?_
  unfold f_X10_shift at h
  show RW w 5 0 0 0 0 cX10_shift RX10 6 (some .int) (bw_Z w (bw_pi (out.1) out.2)) 0 [(0, .ref (bw_ad w 93)), (1, .int v1), (2, .int v2)] [] M
  refine rw_iload_n dX10_shift_0 rfl rfl ?_
  refine rw_iconst (v := 0) dX10_shift_1 (by decide) ?_
  refine rw_aload_n dX10_shift_2 rfl rfl ?_
  refine rw_get dX10_shift_3 fl_RX10_9 (sh_m w) (bw_kl (by decide)) rfl ?_
  refine rw_iconst (v := 4) dX10_shift_6 (by decide) ?_
  refine rw_iald dX10_shift_7 (sh_m_now w) (bw_kl (by decide)) (bw_in (show bw_ib (4 : Int32) 1530 = true by decide)) ?_
  refine rw_callS3 dX10_shift_8 ln_RX10_117 ms_X10_in (ct_X10_in rfl) (Nat.le_of_ble_eq_true rfl) (Nat.le_of_ble_eq_true rfl) (bw_kkz (fun z1 => ?_))
  refine rw_if_eq (tgt := 21) dX10_shift_11 (by decide) (fun c2 => ?_) (fun c2 => ?_)
  · have h := bw_it c2 h
    refine rw_ldc dX10_shift_21 cn_RX10_125 ?_
    have h := Option.some.inj h
    subst h
    exact rw_iret dX10_shift_23 ⟨rfl, rfl⟩
  · have h := bw_if c2 h
    refine rw_iload_n dX10_shift_14 rfl rfl ?_
    refine rw_callS1 dX10_shift_15 ln_RX10_121 ms_X10_isSize (ct_X10_isSize rfl) (Nat.le_of_ble_eq_true rfl) (Nat.le_of_ble_eq_true rfl) (bw_kkz (fun z3 => ?_))
    refine rw_if_ne (tgt := 24) dX10_shift_18 (by decide) (fun c4 => ?_) (fun c4 => ?_)
    · have h := bw_if c4 h
      refine rw_aload_n dX10_shift_24 rfl rfl ?_
      refine rw_get dX10_shift_25 fl_RX10_9 (sh_m w) (bw_kl (by decide)) rfl ?_
      refine rw_iconst (v := 4) dX10_shift_28 (by decide) ?_
      refine rw_iald dX10_shift_29 (sh_m_now w) (bw_kl (by decide)) (bw_in (show bw_ib (4 : Int32) 1530 = true by decide)) ?_
      refine rw_bipush (v := 24) dX10_shift_30 (by decide) ?_
      refine rw_icmp_ne (tgt := 38) dX10_shift_32 (by decide) (fun c5 => ?_) (fun c5 => ?_)
      · have h := bw_if c5 h
        refine rw_aload_n dX10_shift_38 rfl rfl ?_
        obtain ⟨q6, hq6, h⟩ := bw_bd h
        refine rw_callV0 dX10_shift_39 ln_RX10_138 mv_X10_settles (sh_m w) (bw_kl (by decide)) (ct_X10_settles hq6) (Nat.le_of_ble_eq_true rfl) (Nat.le_of_ble_eq_true rfl) (bw_kkv ?_)
        refine rw_aload_n dX10_shift_42 rfl rfl ?_
        refine rw_get dX10_shift_43 fl_RX10_141 (sh_m w) (bw_kl (by decide)) rfl ?_
        have key : RW w 5 0 0 0 0 cX10_shift RX10 6 (some .int) (bw_Z w (bw_pi (out.1) out.2)) 54 [(0, .ref (bw_ad w 93)), (1, .int v1), (2, .int v2)] [.int (if (q6 93 16) < 0 then (0 : Int32) else (1 : Int32))] q6 := by
          exact rw_sub (rw_lc rfl (rw_lc rfl (rw_lc rfl rw_lz))) (th_X10_shift_J54 h)
        refine rw_if_lt (tgt := 53) dX10_shift_46 (by decide) (fun c7 => ?_) (fun c7 => ?_)
        · refine rw_iconst (v := 0) dX10_shift_53 (by decide) ?_
          simp only [if_pos c7] at key
          exact rw_sub (rw_lc rfl (rw_lc rfl (rw_lc rfl rw_lz))) key
        · refine rw_iconst (v := 1) dX10_shift_49 (by decide) ?_
          refine rw_goto (tgt := 54) dX10_shift_50 (by decide) ?_
          simp only [if_neg c7] at key
          exact rw_sub (rw_lc rfl (rw_lc rfl (rw_lc rfl rw_lz))) key
      · have h := bw_it c5 h
        refine rw_ldc dX10_shift_35 cn_RX10_126 ?_
        have h := Option.some.inj h
        subst h
        exact rw_iret dX10_shift_37 ⟨rfl, rfl⟩
    · have h := bw_it c4 h
      refine rw_ldc dX10_shift_21 cn_RX10_125 ?_
      have h := Option.some.inj h
      subst h
      exact rw_iret dX10_shift_23 ⟨rfl, rfl⟩
set_option maxRecDepth 20000 in
set_option maxHeartbeats 1000000 in
theorem ct_X10_isSheet {w : WE} {M : Mem} {v0 : Int32} {out : Int32} (h : f_X10_isSheet v0 = out) : Ct w 1 yX10_isSheet cX10_isSheet 1 (some .boolean) [.int v0] M (bw_pz (out) M) := by
  refine Ct.of (own := RX10) rfl (by decide) (by intro v hv; rw [List.mem_singleton.mp hv]; first | rfl | exact bw_cat_rf _) (Nat.le_of_ble_eq_true rfl) ?_
  unfold f_X10_isSheet at h
  show RW w 1 0 0 0 0 cX10_isSheet RX10 1 (some .boolean) (bw_Z w (bw_pz (out) M)) 0 [(0, .int v0)] [] M
  refine rw_iload_n dX10_isSheet_0 rfl rfl ?_
  refine rw_iconst (v := 0) dX10_isSheet_1 (by decide) ?_
  refine rw_iconst (v := 3) dX10_isSheet_2 (by decide) ?_
  refine rw_callS3 dX10_isSheet_3 ln_RX10_117 ms_X10_in (ct_X10_in rfl) (Nat.le_of_ble_eq_true rfl) (Nat.le_of_ble_eq_true rfl) (bw_kkz (fun z1 => ?_))
  subst h
  exact rw_zret dX10_isSheet_6 z1 ⟨rfl, rfl, z1⟩
set_option maxRecDepth 20000 in
set_option maxHeartbeats 1000000 in
theorem ct_X10_isSlot {w : WE} {M : Mem} {v0 : Int32} {out : Int32} (h : f_X10_isSlot v0 = out) : Ct w 1 yX10_isSlot cX10_isSlot 1 (some .boolean) [.int v0] M (bw_pz (out) M) := by
  refine Ct.of (own := RX10) rfl (by decide) (by intro v hv; rw [List.mem_singleton.mp hv]; first | rfl | exact bw_cat_rf _) (Nat.le_of_ble_eq_true rfl) ?_
  unfold f_X10_isSlot at h
  show RW w 1 0 0 0 0 cX10_isSlot RX10 1 (some .boolean) (bw_Z w (bw_pz (out) M)) 0 [(0, .int v0)] [] M
  refine rw_iload_n dX10_isSlot_0 rfl rfl ?_
  refine rw_iconst (v := 0) dX10_isSlot_1 (by decide) ?_
  refine rw_iconst (v := 4) dX10_isSlot_2 (by decide) ?_
  refine rw_callS3 dX10_isSlot_3 ln_RX10_117 ms_X10_in (ct_X10_in rfl) (Nat.le_of_ble_eq_true rfl) (Nat.le_of_ble_eq_true rfl) (bw_kkz (fun z1 => ?_))
  subst h
  exact rw_zret dX10_isSlot_6 z1 ⟨rfl, rfl, z1⟩
set_option maxRecDepth 20000 in
set_option maxHeartbeats 1000000 in
theorem th_X10_sheet_L66 {w : WE} {v1 : Int32} {out : Int32 × Mem} : ∀ (n : Nat) (v4 : Int32) (M : Mem), f_X10_sheet_L66 v1 n v4 M = some out → RW w 2 0 0 0 0 cX10_sheet RX10 5 (some .int) (bw_Z w (bw_pi (out.1) out.2)) 66 [(0, .ref (bw_ad w 93)), (1, .int v1), (4, .int v4)] [] M := by
  intro n
  induction n with
  | zero => intro v4 M h; cases h
  | succ n ih =>
    intro v4 M h
    rw [f_X10_sheet_L66] at h
    refine rw_iload dX10_sheet_66 rfl ?_
    refine rw_bipush (v := 24) dX10_sheet_68 (by decide) ?_
    refine rw_icmp_ge (tgt := 92) dX10_sheet_70 (by decide) (fun c12 => ?_) (fun c12 => ?_)
    · have h := bw_it c12 h
      refine rw_aload_n dX10_sheet_92 rfl rfl ?_
      refine rw_get dX10_sheet_93 fl_RX10_93 (sh_m w) (bw_kl (by decide)) rfl ?_
      refine rw_iload_n dX10_sheet_96 rfl rfl ?_
      obtain ⟨g13, h⟩ := bw_gd h
      refine rw_iald dX10_sheet_97 (sh_m_sizes w) (bw_kl (by decide)) (bw_in g13) ?_
      have h := Option.some.inj h
      subst h
      exact rw_iret dX10_sheet_98 ⟨rfl, rfl⟩
    · have h := bw_if c12 h
      refine rw_aload_n dX10_sheet_73 rfl rfl ?_
      refine rw_get dX10_sheet_74 fl_RX10_96 (sh_m w) (bw_kl (by decide)) rfl ?_
      refine rw_bipush (v := 24) dX10_sheet_77 (by decide) ?_
      refine rw_iload_n dX10_sheet_79 rfl rfl ?_
      refine rw_imul dX10_sheet_80 ?_
      refine rw_iload dX10_sheet_81 rfl ?_
      refine rw_iadd dX10_sheet_83 ?_
      refine rw_iconst (v := 0) dX10_sheet_84 (by decide) ?_
      obtain ⟨g14, h⟩ := bw_gd h
      refine rw_iast dX10_sheet_85 (sh_m_cells w) (bw_kl (by decide)) (bw_in g14) ?_
      obtain ⟨M15, hM15, h⟩ := bw_mlE h
      refine rw_m hM15.symm ?_
      refine rw_inc dX10_sheet_86 rfl (by decide) ?_
      refine rw_goto (tgt := 66) dX10_sheet_89 (by decide) ?_
      exact rw_sub (rw_lc rfl (rw_lc rfl (rw_lc rfl rw_lz))) (ih (v4 + 1) M15 h)
set_option maxRecDepth 20000 in
set_option maxHeartbeats 1000000 in
theorem th_X10_sheet_J62 {w : WE} {M : Mem} {v1 : Int32} {s1 : Int32} {s2 : Int32} {out : Int32 × Mem} (h : f_X10_sheet_J62 M v1 s1 s2 = some out) : RW w 2 0 0 0 0 cX10_sheet RX10 5 (some .int) (bw_Z w (bw_pi (out.1) out.2)) 62 [(0, .ref (bw_ad w 93)), (1, .int v1)] [.int s2, .int s1, .ref (bw_ad w 121)] M := by
  unfold f_X10_sheet_J62 at h
  obtain ⟨g10, h⟩ := bw_gd h
  refine rw_iast dX10_sheet_62 (sh_m_sizes w) (bw_kl (by decide)) (bw_in g10) ?_
  obtain ⟨M11, hM11, h⟩ := bw_mlE h
  refine rw_m hM11.symm ?_
  refine rw_iconst (v := 0) dX10_sheet_63 (by decide) ?_
  refine rw_istore dX10_sheet_64 (by decide) ?_
  exact rw_sub (rw_lc rfl (rw_lc rfl (rw_lc rfl rw_lz))) (th_X10_sheet_L66 bw_fu (0 : Int32) M11 h)
set_option maxRecDepth 20000 in
set_option maxHeartbeats 1000000 in
theorem th_X10_sheet_J41 {w : WE} {M : Mem} {v1 : Int32} {v2 : Int32} {v3 : Int32} {out : Int32 × Mem} (h : f_X10_sheet_J41 M v1 v2 v3 = some out) : RW w 2 0 0 0 0 cX10_sheet RX10 5 (some .int) (bw_Z w (bw_pi (out.1) out.2)) 41 [(0, .ref (bw_ad w 93)), (1, .int v1), (2, .int v2), (3, .int v3)] [] M := by
  unfold f_X10_sheet_J41 at h
  refine rw_aload_n dX10_sheet_41 rfl rfl ?_
  refine rw_get dX10_sheet_42 fl_RX10_90 (sh_m w) (bw_kl (by decide)) rfl ?_
  refine rw_iload_n dX10_sheet_45 rfl rfl ?_
  refine rw_iload_n dX10_sheet_46 rfl rfl ?_
  obtain ⟨g7, h⟩ := bw_gd h
  refine rw_iast dX10_sheet_47 (sh_m_sorts w) (bw_kl (by decide)) (bw_in g7) ?_
  obtain ⟨M8, hM8, h⟩ := bw_mlE h
  refine rw_m hM8.symm ?_
  refine rw_aload_n dX10_sheet_48 rfl rfl ?_
  refine rw_get dX10_sheet_49 fl_RX10_93 (sh_m w) (bw_kl (by decide)) rfl ?_
  refine rw_iload_n dX10_sheet_52 rfl rfl ?_
  refine rw_iload_n dX10_sheet_53 rfl rfl ?_
  have key : RW w 2 0 0 0 0 cX10_sheet RX10 5 (some .int) (bw_Z w (bw_pi (out.1) out.2)) 62 [(0, .ref (bw_ad w 93)), (1, .int v1)] [.int (if 0 ≤ v2 then v3 else (0 : Int32)), .int v1, .ref (bw_ad w 121)] M8 := by
    exact rw_sub (rw_lc rfl (rw_lc rfl rw_lz)) (th_X10_sheet_J62 h)
  refine rw_if_ge (tgt := 61) dX10_sheet_54 (by decide) (fun c9 => ?_) (fun c9 => ?_)
  · refine rw_iload_n dX10_sheet_61 rfl rfl ?_
    simp only [if_pos c9] at key
    exact rw_sub (rw_lc rfl (rw_lc rfl rw_lz)) key
  · refine rw_iconst (v := 0) dX10_sheet_57 (by decide) ?_
    refine rw_goto (tgt := 62) dX10_sheet_58 (by decide) ?_
    simp only [if_neg c9] at key
    exact rw_sub (rw_lc rfl (rw_lc rfl rw_lz)) key
set_option maxRecDepth 20000 in
set_option maxHeartbeats 1000000 in
theorem th_X10_sheet_J29 {w : WE} {M : Mem} {v1 : Int32} {v2 : Int32} {v3 : Int32} {out : Int32 × Mem} (h : f_X10_sheet_J29 M v1 v2 v3 = some out) : RW w 2 0 0 0 0 cX10_sheet RX10 5 (some .int) (bw_Z w (bw_pi (out.1) out.2)) 29 [(0, .ref (bw_ad w 93)), (1, .int v1), (2, .int v2), (3, .int v3)] [] M := by
  unfold f_X10_sheet_J29 at h
  refine rw_iload_n dX10_sheet_29 rfl rfl ?_
  refine rw_if_lt (tgt := 41) dX10_sheet_30 (by decide) (fun c6 => ?_) (fun c6 => ?_)
  · have h := bw_it c6 h
    exact rw_sub (rw_lc rfl (rw_lc rfl (rw_lc rfl (rw_lc rfl rw_lz)))) (th_X10_sheet_J41 h)
  · have h := bw_if c6 h
    refine rw_iload_n dX10_sheet_33 rfl rfl ?_
    refine rw_if_ge (tgt := 41) dX10_sheet_34 (by decide) (fun c16 => ?_) (fun c16 => ?_)
    · have h := bw_it c16 h
      exact rw_sub (rw_lc rfl (rw_lc rfl (rw_lc rfl (rw_lc rfl rw_lz)))) (th_X10_sheet_J41 h)
    · have h := bw_if c16 h
      refine rw_ldcw dX10_sheet_37 cn_RX10_346 ?_
      have h := Option.some.inj h
      subst h
      exact rw_iret dX10_sheet_40 ⟨rfl, rfl⟩
set_option maxRecDepth 20000 in
set_option maxHeartbeats 1000000 in
theorem ct_X10_sheet {w : WE} {M : Mem} {v1 : Int32} {v2 : Int32} {v3 : Int32} {out : Int32 × Mem} (h : f_X10_sheet M v1 v2 v3 = some out) : Ct w 2 yX10_sheet cX10_sheet 5 (some .int) [.ref (bw_ad w 93), .int v1, .int v2, .int v3] M (bw_pi (out.1) out.2) := by
  refine Ct.of (own := RX10) rfl (by decide) (by intro v hv; simp only [List.mem_cons, List.not_mem_nil, or_false] at hv; rcases hv with rfl | rfl | rfl | rfl <;> first | rfl | exact bw_cat_rf _) (Nat.le_of_ble_eq_true rfl) ?_
  unfold f_X10_sheet at h
  show RW w 2 0 0 0 0 cX10_sheet RX10 5 (some .int) (bw_Z w (bw_pi (out.1) out.2)) 0 [(0, .ref (bw_ad w 93)), (1, .int v1), (2, .int v2), (3, .int v3)] [] M
  refine rw_iload_n dX10_sheet_0 rfl rfl ?_
  refine rw_callS1 dX10_sheet_1 ln_RX10_343 ms_X10_isSheet (ct_X10_isSheet rfl) (Nat.le_of_ble_eq_true rfl) (Nat.le_of_ble_eq_true rfl) (bw_kkz (fun z1 => ?_))
  refine rw_if_eq (tgt := 26) dX10_sheet_4 (by decide) (fun c2 => ?_) (fun c2 => ?_)
  · have h := bw_it c2 h
    refine rw_ldc dX10_sheet_26 cn_RX10_125 ?_
    have h := Option.some.inj h
    subst h
    exact rw_iret dX10_sheet_28 ⟨rfl, rfl⟩
  · have h := bw_if c2 h
    refine rw_iload_n dX10_sheet_7 rfl rfl ?_
    refine rw_iconst (v := -1) dX10_sheet_8 (by decide) ?_
    refine rw_iconst (v := 1) dX10_sheet_9 (by decide) ?_
    refine rw_callS3 dX10_sheet_10 ln_RX10_117 ms_X10_in (ct_X10_in rfl) (Nat.le_of_ble_eq_true rfl) (Nat.le_of_ble_eq_true rfl) (bw_kkz (fun z3 => ?_))
    refine rw_if_eq (tgt := 26) dX10_sheet_13 (by decide) (fun c4 => ?_) (fun c4 => ?_)
    · have h := bw_it c4 h
      refine rw_ldc dX10_sheet_26 cn_RX10_125 ?_
      have h := Option.some.inj h
      subst h
      exact rw_iret dX10_sheet_28 ⟨rfl, rfl⟩
    · have h := bw_if c4 h
      refine rw_iload_n dX10_sheet_16 rfl rfl ?_
      refine rw_if_lt (tgt := 29) dX10_sheet_17 (by decide) (fun c5 => ?_) (fun c5 => ?_)
      · have h := bw_it c5 h
        exact rw_sub (rw_lc rfl (rw_lc rfl (rw_lc rfl (rw_lc rfl rw_lz)))) (th_X10_sheet_J29 h)
      · have h := bw_if c5 h
        refine rw_iload_n dX10_sheet_20 rfl rfl ?_
        refine rw_bipush (v := 24) dX10_sheet_21 (by decide) ?_
        refine rw_icmp_le (tgt := 29) dX10_sheet_23 (by decide) (fun c17 => ?_) (fun c17 => ?_)
        · have h := bw_it c17 h
          exact rw_sub (rw_lc rfl (rw_lc rfl (rw_lc rfl (rw_lc rfl rw_lz)))) (th_X10_sheet_J29 h)
        · have h := bw_if c17 h
          refine rw_ldc dX10_sheet_26 cn_RX10_125 ?_
          have h := Option.some.inj h
          subst h
          exact rw_iret dX10_sheet_28 ⟨rfl, rfl⟩
set_option maxRecDepth 20000 in
set_option maxHeartbeats 1000000 in
theorem th_X10_mark_J93 {w : WE} {M : Mem} {v1 : Int32} {v2 : Int32} {v3 : Int32} {out : Int32 × Mem} (h : f_X10_mark_J93 M v1 v2 v3 = some out) : RW w 2 0 0 0 0 cX10_mark RX10 4 (some .int) (bw_Z w (bw_pi (out.1) out.2)) 93 [(0, .ref (bw_ad w 93)), (1, .int v1), (2, .int v2), (3, .int v3)] [] M := by
  unfold f_X10_mark_J93 at h
  refine rw_aload_n dX10_mark_93 rfl rfl ?_
  refine rw_get dX10_mark_94 fl_RX10_96 (sh_m w) (bw_kl (by decide)) rfl ?_
  refine rw_bipush (v := 24) dX10_mark_97 (by decide) ?_
  refine rw_iload_n dX10_mark_99 rfl rfl ?_
  refine rw_imul dX10_mark_100 ?_
  refine rw_iload_n dX10_mark_101 rfl rfl ?_
  refine rw_iadd dX10_mark_102 ?_
  refine rw_aload_n dX10_mark_103 rfl rfl ?_
  refine rw_get dX10_mark_104 fl_RX10_90 (sh_m w) (bw_kl (by decide)) rfl ?_
  refine rw_iload_n dX10_mark_107 rfl rfl ?_
  obtain ⟨g10, h⟩ := bw_gd h
  refine rw_iald dX10_mark_108 (sh_m_sorts w) (bw_kl (by decide)) (bw_in g10) ?_
  refine rw_if_ne (tgt := 117) dX10_mark_109 (by decide) (fun c11 => ?_) (fun c11 => ?_)
  · have h := bw_if c11 h
    refine rw_iload_n dX10_mark_117 rfl rfl ?_
    obtain ⟨g12, h⟩ := bw_gd h
    refine rw_iast dX10_mark_118 (sh_m_cells w) (bw_kl (by decide)) (bw_in g12) ?_
    obtain ⟨M13, hM13, h⟩ := bw_mlE h
    refine rw_m hM13.symm ?_
    refine rw_iconst (v := 1) dX10_mark_119 (by decide) ?_
    have h := Option.some.inj h
    subst h
    exact rw_iret dX10_mark_120 ⟨rfl, rfl⟩
  · have h := bw_it c11 h
    refine rw_iload_n dX10_mark_112 rfl rfl ?_
    refine rw_i2s dX10_mark_113 ?_
    refine rw_goto (tgt := 118) dX10_mark_114 (by decide) ?_
    obtain ⟨g14, h⟩ := bw_gd h
    refine rw_iast dX10_mark_118 (sh_m_cells w) (bw_kl (by decide)) (bw_in g14) ?_
    obtain ⟨M15, hM15, h⟩ := bw_mlE h
    refine rw_m hM15.symm ?_
    refine rw_iconst (v := 1) dX10_mark_119 (by decide) ?_
    have h := Option.some.inj h
    subst h
    exact rw_iret dX10_mark_120 ⟨rfl, rfl⟩
set_option maxRecDepth 20000 in
set_option maxHeartbeats 1000000 in
theorem th_X10_mark_J61 {w : WE} {M : Mem} {v1 : Int32} {v2 : Int32} {v3 : Int32} {out : Int32 × Mem} (h : f_X10_mark_J61 M v1 v2 v3 = some out) : RW w 2 0 0 0 0 cX10_mark RX10 4 (some .int) (bw_Z w (bw_pi (out.1) out.2)) 61 [(0, .ref (bw_ad w 93)), (1, .int v1), (2, .int v2), (3, .int v3)] [] M := by
  unfold f_X10_mark_J61 at h
  refine rw_aload_n dX10_mark_61 rfl rfl ?_
  refine rw_get dX10_mark_62 fl_RX10_90 (sh_m w) (bw_kl (by decide)) rfl ?_
  refine rw_iload_n dX10_mark_65 rfl rfl ?_
  obtain ⟨g8, h⟩ := bw_gd h
  refine rw_iald dX10_mark_66 (sh_m_sorts w) (bw_kl (by decide)) (bw_in g8) ?_
  refine rw_iconst (v := 1) dX10_mark_67 (by decide) ?_
  refine rw_icmp_ne (tgt := 93) dX10_mark_68 (by decide) (fun c9 => ?_) (fun c9 => ?_)
  · have h := bw_if c9 h
    exact rw_sub (rw_lc rfl (rw_lc rfl (rw_lc rfl (rw_lc rfl rw_lz)))) (th_X10_mark_J93 h)
  · have h := bw_it c9 h
    refine rw_iload_n dX10_mark_71 rfl rfl ?_
    refine rw_ldc dX10_mark_72 cn_RX10_145 ?_
    refine rw_icmp_eq (tgt := 93) dX10_mark_74 (by decide) (fun c16 => ?_) (fun c16 => ?_)
    · have h := bw_it c16 h
      exact rw_sub (rw_lc rfl (rw_lc rfl (rw_lc rfl (rw_lc rfl rw_lz)))) (th_X10_mark_J93 h)
    · have h := bw_if c16 h
      refine rw_iload_n dX10_mark_77 rfl rfl ?_
      refine rw_ldcw dX10_mark_78 cn_RX10_349 ?_
      refine rw_ldcw dX10_mark_81 cn_RX10_350 ?_
      refine rw_callS3 dX10_mark_84 ln_RX10_117 ms_X10_in (ct_X10_in rfl) (Nat.le_of_ble_eq_true rfl) (Nat.le_of_ble_eq_true rfl) (bw_kkz (fun z17 => ?_))
      refine rw_if_ne (tgt := 93) dX10_mark_87 (by decide) (fun c18 => ?_) (fun c18 => ?_)
      · have h := bw_if c18 h
        exact rw_sub (rw_lc rfl (rw_lc rfl (rw_lc rfl (rw_lc rfl rw_lz)))) (th_X10_mark_J93 h)
      · have h := bw_it c18 h
        refine rw_ldc dX10_mark_90 cn_RX10_125 ?_
        have h := Option.some.inj h
        subst h
        exact rw_iret dX10_mark_92 ⟨rfl, rfl⟩
set_option maxRecDepth 20000 in
set_option maxHeartbeats 1000000 in
theorem ct_X10_mark {w : WE} {M : Mem} {v1 : Int32} {v2 : Int32} {v3 : Int32} {out : Int32 × Mem} (h : f_X10_mark M v1 v2 v3 = some out) : Ct w 2 yX10_mark cX10_mark 4 (some .int) [.ref (bw_ad w 93), .int v1, .int v2, .int v3] M (bw_pi (out.1) out.2) := by
  refine Ct.of (own := RX10) rfl (by decide) (by intro v hv; simp only [List.mem_cons, List.not_mem_nil, or_false] at hv; rcases hv with rfl | rfl | rfl | rfl <;> first | rfl | exact bw_cat_rf _) (Nat.le_of_ble_eq_true rfl) ?_
  unfold f_X10_mark at h
  show RW w 2 0 0 0 0 cX10_mark RX10 4 (some .int) (bw_Z w (bw_pi (out.1) out.2)) 0 [(0, .ref (bw_ad w 93)), (1, .int v1), (2, .int v2), (3, .int v3)] [] M
  refine rw_iload_n dX10_mark_0 rfl rfl ?_
  refine rw_callS1 dX10_mark_1 ln_RX10_343 ms_X10_isSheet (ct_X10_isSheet rfl) (Nat.le_of_ble_eq_true rfl) (Nat.le_of_ble_eq_true rfl) (bw_kkz (fun z1 => ?_))
  refine rw_if_ne (tgt := 10) dX10_mark_4 (by decide) (fun c2 => ?_) (fun c2 => ?_)
  · have h := bw_if c2 h
    refine rw_aload_n dX10_mark_10 rfl rfl ?_
    refine rw_get dX10_mark_11 fl_RX10_90 (sh_m w) (bw_kl (by decide)) rfl ?_
    refine rw_iload_n dX10_mark_14 rfl rfl ?_
    obtain ⟨g3, h⟩ := bw_gd h
    refine rw_iald dX10_mark_15 (sh_m_sorts w) (bw_kl (by decide)) (bw_in g3) ?_
    refine rw_if_ge (tgt := 23) dX10_mark_16 (by decide) (fun c4 => ?_) (fun c4 => ?_)
    · have h := bw_it c4 h
      refine rw_iload_n dX10_mark_23 rfl rfl ?_
      refine rw_iconst (v := 0) dX10_mark_24 (by decide) ?_
      refine rw_aload_n dX10_mark_25 rfl rfl ?_
      refine rw_get dX10_mark_26 fl_RX10_93 (sh_m w) (bw_kl (by decide)) rfl ?_
      refine rw_iload_n dX10_mark_29 rfl rfl ?_
      refine rw_iald dX10_mark_30 (sh_m_sizes w) (bw_kl (by decide)) (bw_in g3) ?_
      refine rw_iconst (v := 1) dX10_mark_31 (by decide) ?_
      refine rw_isub dX10_mark_32 ?_
      refine rw_callS3 dX10_mark_33 ln_RX10_117 ms_X10_in (ct_X10_in rfl) (Nat.le_of_ble_eq_true rfl) (Nat.le_of_ble_eq_true rfl) (bw_kkz (fun z5 => ?_))
      refine rw_if_ne (tgt := 43) dX10_mark_36 (by decide) (fun c6 => ?_) (fun c6 => ?_)
      · have h := bw_if c6 h
        refine rw_aload_n dX10_mark_43 rfl rfl ?_
        refine rw_get dX10_mark_44 fl_RX10_90 (sh_m w) (bw_kl (by decide)) rfl ?_
        refine rw_iload_n dX10_mark_47 rfl rfl ?_
        refine rw_iald dX10_mark_48 (sh_m_sorts w) (bw_kl (by decide)) (bw_in g3) ?_
        refine rw_if_ne (tgt := 61) dX10_mark_49 (by decide) (fun c7 => ?_) (fun c7 => ?_)
        · have h := bw_if c7 h
          exact rw_sub (rw_lc rfl (rw_lc rfl (rw_lc rfl (rw_lc rfl rw_lz)))) (th_X10_mark_J61 h)
        · have h := bw_it c7 h
          refine rw_iload_n dX10_mark_52 rfl rfl ?_
          refine rw_ldc dX10_mark_53 cn_RX10_145 ?_
          refine rw_icmp_ne (tgt := 61) dX10_mark_55 (by decide) (fun c19 => ?_) (fun c19 => ?_)
          · have h := bw_if c19 h
            exact rw_sub (rw_lc rfl (rw_lc rfl (rw_lc rfl (rw_lc rfl rw_lz)))) (th_X10_mark_J61 h)
          · have h := bw_it c19 h
            refine rw_ldc dX10_mark_58 cn_RX10_181 ?_
            have h := Option.some.inj h
            subst h
            exact rw_iret dX10_mark_60 ⟨rfl, rfl⟩
      · have h := bw_it c6 h
        refine rw_ldcw dX10_mark_39 cn_RX10_348 ?_
        have h := Option.some.inj h
        subst h
        exact rw_iret dX10_mark_42 ⟨rfl, rfl⟩
    · have h := bw_if c4 h
      refine rw_ldcw dX10_mark_19 cn_RX10_347 ?_
      have h := Option.some.inj h
      subst h
      exact rw_iret dX10_mark_22 ⟨rfl, rfl⟩
  · have h := bw_it c2 h
    refine rw_ldc dX10_mark_7 cn_RX10_125 ?_
    have h := Option.some.inj h
    subst h
    exact rw_iret dX10_mark_9 ⟨rfl, rfl⟩
set_option maxRecDepth 20000 in
set_option maxHeartbeats 1000000 in
theorem th_X10_pour_L87 {w : WE} {v1 : Int32} {v2 : Int32} {v3 : Int32} {out : Int32 × Mem} : ∀ (n : Nat) (v4 : Int32) (M : Mem), f_X10_pour_L87 v1 v2 v3 n v4 M = some out → RW w 2 0 0 0 0 cX10_pour RX10 6 (some .int) (bw_Z w (bw_pi (out.1) out.2)) 87 [(0, .ref (bw_ad w 93)), (1, .int v1), (2, .int v2), (3, .int v3), (4, .int v4)] [] M := by
  intro n
  induction n with
  | zero => intro v4 M h; cases h
  | succ n ih =>
    intro v4 M h
    rw [f_X10_pour_L87] at h
    refine rw_iload dX10_pour_87 rfl ?_
    refine rw_iload_n dX10_pour_89 rfl rfl ?_
    refine rw_icmp_ge (tgt := 128) dX10_pour_90 (by decide) (fun c10 => ?_) (fun c10 => ?_)
    · have h := bw_it c10 h
      refine rw_iload_n dX10_pour_128 rfl rfl ?_
      have h := Option.some.inj h
      subst h
      exact rw_iret dX10_pour_129 ⟨rfl, rfl⟩
    · have h := bw_if c10 h
      refine rw_aload_n dX10_pour_93 rfl rfl ?_
      refine rw_get dX10_pour_94 fl_RX10_96 (sh_m w) (bw_kl (by decide)) rfl ?_
      refine rw_bipush (v := 24) dX10_pour_97 (by decide) ?_
      refine rw_iload_n dX10_pour_99 rfl rfl ?_
      refine rw_imul dX10_pour_100 ?_
      refine rw_iload dX10_pour_101 rfl ?_
      refine rw_iadd dX10_pour_103 ?_
      obtain ⟨g11, h⟩ := bw_gd h
      refine rw_iald dX10_pour_104 (sh_m_cells w) (bw_kl (by decide)) (bw_in g11) ?_
      obtain ⟨x12, hx12, h⟩ := bw_mlE h
      refine rw_ti hx12 ?_
      refine rw_istore dX10_pour_105 (by decide) ?_
      refine rw_aload_n dX10_pour_107 rfl rfl ?_
      refine rw_iload dX10_pour_108 rfl ?_
      refine rw_bipush (v := 100) dX10_pour_110 (by decide) ?_
      refine rw_idiv dX10_pour_112 (by decide) ?_
      refine rw_iload dX10_pour_113 rfl ?_
      refine rw_bipush (v := 100) dX10_pour_115 (by decide) ?_
      refine rw_irem dX10_pour_117 (by decide) ?_
      refine rw_iload_n dX10_pour_118 rfl rfl ?_
      obtain ⟨q13, hq13, h⟩ := bw_bd h
      refine rw_callV3 dX10_pour_119 ln_RX10_127 mv_X10_comes (sh_m w) (bw_kl (by decide)) (ct_X10_comes hq13) (Nat.le_of_ble_eq_true rfl) (Nat.le_of_ble_eq_true rfl) (bw_kkv ?_)
      refine rw_inc dX10_pour_122 rfl (by decide) ?_
      refine rw_goto (tgt := 87) dX10_pour_125 (by decide) ?_
      exact rw_sub (rw_lc rfl (rw_lc rfl (rw_lc rfl (rw_lc rfl (rw_lc rfl rw_lz))))) (ih (v4 + 1) q13 h)
set_option maxRecDepth 20000 in
set_option maxHeartbeats 1000000 in
theorem th_X10_pour_L35 {w : WE} {M : Mem} {v1 : Int32} {v2 : Int32} {out : Int32 × Mem} : ∀ (n : Nat) (v3 : Int32), f_X10_pour_L35 M v1 v2 n v3 = some out → RW w 2 0 0 0 0 cX10_pour RX10 6 (some .int) (bw_Z w (bw_pi (out.1) out.2)) 35 [(0, .ref (bw_ad w 93)), (1, .int v1), (2, .int v2), (3, .int v3)] [] M := by
  intro n
  induction n with
  | zero => intro v3 h; cases h
  | succ n ih =>
    intro v3 h
    rw [f_X10_pour_L35] at h
    refine rw_iload_n dX10_pour_35 rfl rfl ?_
    refine rw_aload_n dX10_pour_36 rfl rfl ?_
    refine rw_get dX10_pour_37 fl_RX10_93 (sh_m w) (bw_kl (by decide)) rfl ?_
    refine rw_iload_n dX10_pour_40 rfl rfl ?_
    obtain ⟨g7, h⟩ := bw_gd h
    refine rw_iald dX10_pour_41 (sh_m_sizes w) (bw_kl (by decide)) (bw_in g7) ?_
    refine rw_icmp_ge (tgt := 68) dX10_pour_42 (by decide) (fun c8 => ?_) (fun c8 => ?_)
    · have h := bw_it c8 h
      refine rw_aload_n dX10_pour_68 rfl rfl ?_
      refine rw_get dX10_pour_69 fl_RX10_9 (sh_m w) (bw_kl (by decide)) rfl ?_
      refine rw_iconst (v := 4) dX10_pour_72 (by decide) ?_
      refine rw_iald dX10_pour_73 (sh_m_now w) (bw_kl (by decide)) (bw_in (show bw_ib (4 : Int32) 1530 = true by decide)) ?_
      refine rw_iload_n dX10_pour_74 rfl rfl ?_
      refine rw_iadd dX10_pour_75 ?_
      refine rw_bipush (v := 24) dX10_pour_76 (by decide) ?_
      refine rw_icmp_le (tgt := 84) dX10_pour_78 (by decide) (fun c9 => ?_) (fun c9 => ?_)
      · have h := bw_it c9 h
        refine rw_iconst (v := 0) dX10_pour_84 (by decide) ?_
        refine rw_istore dX10_pour_85 (by decide) ?_
        exact rw_sub (rw_lc rfl (rw_lc rfl (rw_lc rfl (rw_lc rfl (rw_lc rfl rw_lz))))) (th_X10_pour_L87 bw_fu (0 : Int32) M h)
      · have h := bw_if c9 h
        refine rw_ldc dX10_pour_81 cn_RX10_126 ?_
        have h := Option.some.inj h
        subst h
        exact rw_iret dX10_pour_83 ⟨rfl, rfl⟩
    · have h := bw_if c8 h
      refine rw_aload_n dX10_pour_45 rfl rfl ?_
      refine rw_get dX10_pour_46 fl_RX10_96 (sh_m w) (bw_kl (by decide)) rfl ?_
      refine rw_bipush (v := 24) dX10_pour_49 (by decide) ?_
      refine rw_iload_n dX10_pour_51 rfl rfl ?_
      refine rw_imul dX10_pour_52 ?_
      refine rw_iload_n dX10_pour_53 rfl rfl ?_
      refine rw_iadd dX10_pour_54 ?_
      obtain ⟨g14, h⟩ := bw_gd h
      refine rw_iald dX10_pour_55 (sh_m_cells w) (bw_kl (by decide)) (bw_in g14) ?_
      refine rw_callS1 dX10_pour_56 ln_RX10_121 ms_X10_isSize (ct_X10_isSize rfl) (Nat.le_of_ble_eq_true rfl) (Nat.le_of_ble_eq_true rfl) (bw_kkz (fun z15 => ?_))
      refine rw_if_eq (tgt := 68) dX10_pour_59 (by decide) (fun c16 => ?_) (fun c16 => ?_)
      · have h := bw_it c16 h
        refine rw_aload_n dX10_pour_68 rfl rfl ?_
        refine rw_get dX10_pour_69 fl_RX10_9 (sh_m w) (bw_kl (by decide)) rfl ?_
        refine rw_iconst (v := 4) dX10_pour_72 (by decide) ?_
        refine rw_iald dX10_pour_73 (sh_m_now w) (bw_kl (by decide)) (bw_in (show bw_ib (4 : Int32) 1530 = true by decide)) ?_
        refine rw_iload_n dX10_pour_74 rfl rfl ?_
        refine rw_iadd dX10_pour_75 ?_
        refine rw_bipush (v := 24) dX10_pour_76 (by decide) ?_
        refine rw_icmp_le (tgt := 84) dX10_pour_78 (by decide) (fun c17 => ?_) (fun c17 => ?_)
        · have h := bw_it c17 h
          refine rw_iconst (v := 0) dX10_pour_84 (by decide) ?_
          refine rw_istore dX10_pour_85 (by decide) ?_
          exact rw_sub (rw_lc rfl (rw_lc rfl (rw_lc rfl (rw_lc rfl (rw_lc rfl rw_lz))))) (th_X10_pour_L87 bw_fu (0 : Int32) M h)
        · have h := bw_if c17 h
          refine rw_ldc dX10_pour_81 cn_RX10_126 ?_
          have h := Option.some.inj h
          subst h
          exact rw_iret dX10_pour_83 ⟨rfl, rfl⟩
      · have h := bw_if c16 h
        refine rw_inc dX10_pour_62 rfl (by decide) ?_
        refine rw_goto (tgt := 35) dX10_pour_65 (by decide) ?_
        exact rw_sub (rw_lc rfl (rw_lc rfl (rw_lc rfl (rw_lc rfl rw_lz)))) (ih (v3 + 1) h)
set_option maxRecDepth 20000 in
set_option maxHeartbeats 1000000 in
theorem ct_X10_pour {w : WE} {M : Mem} {v1 : Int32} {v2 : Int32} {out : Int32 × Mem} (h : f_X10_pour M v1 v2 = some out) : Ct w 2 yX10_pour cX10_pour 6 (some .int) [.ref (bw_ad w 93), .int v1, .int v2] M (bw_pi (out.1) out.2) := by
  refine Ct.of (own := RX10) rfl (by decide) (by intro v hv; simp only [List.mem_cons, List.not_mem_nil, or_false] at hv; rcases hv with rfl | rfl | rfl <;> first | rfl | exact bw_cat_rf _) (Nat.le_of_ble_eq_true rfl) ?_
  unfold f_X10_pour at h
  show RW w 2 0 0 0 0 cX10_pour RX10 6 (some .int) (bw_Z w (bw_pi (out.1) out.2)) 0 [(0, .ref (bw_ad w 93)), (1, .int v1), (2, .int v2)] [] M
  refine rw_iload_n dX10_pour_0 rfl rfl ?_
  refine rw_callS1 dX10_pour_1 ln_RX10_343 ms_X10_isSheet (ct_X10_isSheet rfl) (Nat.le_of_ble_eq_true rfl) (Nat.le_of_ble_eq_true rfl) (bw_kkz (fun z1 => ?_))
  refine rw_if_eq (tgt := 17) dX10_pour_4 (by decide) (fun c2 => ?_) (fun c2 => ?_)
  · have h := bw_it c2 h
    refine rw_ldc dX10_pour_17 cn_RX10_125 ?_
    have h := Option.some.inj h
    subst h
    exact rw_iret dX10_pour_19 ⟨rfl, rfl⟩
  · have h := bw_if c2 h
    refine rw_iload_n dX10_pour_7 rfl rfl ?_
    refine rw_iconst (v := 0) dX10_pour_8 (by decide) ?_
    refine rw_bipush (v := 7) dX10_pour_9 (by decide) ?_
    refine rw_callS3 dX10_pour_11 ln_RX10_117 ms_X10_in (ct_X10_in rfl) (Nat.le_of_ble_eq_true rfl) (Nat.le_of_ble_eq_true rfl) (bw_kkz (fun z3 => ?_))
    refine rw_if_ne (tgt := 20) dX10_pour_14 (by decide) (fun c4 => ?_) (fun c4 => ?_)
    · have h := bw_if c4 h
      refine rw_aload_n dX10_pour_20 rfl rfl ?_
      refine rw_get dX10_pour_21 fl_RX10_90 (sh_m w) (bw_kl (by decide)) rfl ?_
      refine rw_iload_n dX10_pour_24 rfl rfl ?_
      obtain ⟨g5, h⟩ := bw_gd h
      refine rw_iald dX10_pour_25 (sh_m_sorts w) (bw_kl (by decide)) (bw_in g5) ?_
      refine rw_if_ge (tgt := 33) dX10_pour_26 (by decide) (fun c6 => ?_) (fun c6 => ?_)
      · have h := bw_it c6 h
        refine rw_iconst (v := 0) dX10_pour_33 (by decide) ?_
        refine rw_istore_n dX10_pour_34 rfl (by decide) ?_
        exact rw_sub (rw_lc rfl (rw_lc rfl (rw_lc rfl (rw_lc rfl rw_lz)))) (th_X10_pour_L35 bw_fu (0 : Int32) h)
      · have h := bw_if c6 h
        refine rw_ldcw dX10_pour_29 cn_RX10_347 ?_
        have h := Option.some.inj h
        subst h
        exact rw_iret dX10_pour_32 ⟨rfl, rfl⟩
    · have h := bw_it c4 h
      refine rw_ldc dX10_pour_17 cn_RX10_125 ?_
      have h := Option.some.inj h
      subst h
      exact rw_iret dX10_pour_19 ⟨rfl, rfl⟩
set_option maxRecDepth 20000 in
set_option maxHeartbeats 1000000 in
theorem th_X10_copy_L142 {w : WE} {v3 : Int32} {v4 : Int32} {v5 : Int32} {out : Int32 × Mem} : ∀ (n : Nat) (v6 : Int32) (M : Mem), f_X10_copy_L142 v3 v4 v5 n v6 M = some out → RW w 2 0 0 0 0 cX10_copy RX10 7 (some .int) (bw_Z w (bw_pi (out.1) out.2)) 142 [(0, .ref (bw_ad w 93)), (3, .int v3), (4, .int v4), (5, .int v5), (6, .int v6)] [] M := by
  intro n
  induction n with
  | zero => intro v6 M h; cases h
  | succ n ih =>
    intro v6 M h
    rw [f_X10_copy_L142] at h
    refine rw_iload dX10_copy_142 rfl ?_
    refine rw_iload dX10_copy_144 rfl ?_
    refine rw_icmp_ge (tgt := 177) dX10_copy_146 (by decide) (fun c16 => ?_) (fun c16 => ?_)
    · have h := bw_it c16 h
      refine rw_iload dX10_copy_177 rfl ?_
      have h := Option.some.inj h
      subst h
      exact rw_iret dX10_copy_179 ⟨rfl, rfl⟩
    · have h := bw_if c16 h
      refine rw_aload_n dX10_copy_149 rfl rfl ?_
      refine rw_get dX10_copy_150 fl_RX10_96 (sh_m w) (bw_kl (by decide)) rfl ?_
      refine rw_bipush (v := 24) dX10_copy_153 (by decide) ?_
      refine rw_iload_n dX10_copy_155 rfl rfl ?_
      refine rw_imul dX10_copy_156 ?_
      refine rw_iload dX10_copy_157 rfl ?_
      refine rw_iadd dX10_copy_159 ?_
      refine rw_iload dX10_copy_160 rfl ?_
      refine rw_iadd dX10_copy_162 ?_
      refine rw_aload_n dX10_copy_163 rfl rfl ?_
      refine rw_get dX10_copy_164 fl_RX10_111 (sh_m w) (bw_kl (by decide)) rfl ?_
      refine rw_iload dX10_copy_167 rfl ?_
      obtain ⟨g17, h⟩ := bw_gd h
      refine rw_iald dX10_copy_169 (sh_m_moved w) (bw_kl (by decide)) (bw_in g17) ?_
      obtain ⟨g18, h⟩ := bw_gd h
      refine rw_iast dX10_copy_170 (sh_m_cells w) (bw_kl (by decide)) (bw_in g18) ?_
      obtain ⟨M19, hM19, h⟩ := bw_mlE h
      refine rw_m hM19.symm ?_
      refine rw_inc dX10_copy_171 rfl (by decide) ?_
      refine rw_goto (tgt := 142) dX10_copy_174 (by decide) ?_
      exact rw_sub (rw_lc rfl (rw_lc rfl (rw_lc rfl (rw_lc rfl (rw_lc rfl rw_lz))))) (ih (v6 + 1) M19 h)
set_option maxRecDepth 20000 in
set_option maxHeartbeats 1000000 in
theorem th_X10_copy_L105 {w : WE} {v1 : Int32} {v2 : Int32} {v3 : Int32} {v4 : Int32} {v5 : Int32} {out : Int32 × Mem} : ∀ (n : Nat) (v6 : Int32) (M : Mem), f_X10_copy_L105 v1 v2 v3 v4 v5 n v6 M = some out → RW w 2 0 0 0 0 cX10_copy RX10 7 (some .int) (bw_Z w (bw_pi (out.1) out.2)) 105 [(0, .ref (bw_ad w 93)), (1, .int v1), (2, .int v2), (3, .int v3), (4, .int v4), (5, .int v5), (6, .int v6)] [] M := by
  intro n
  induction n with
  | zero => intro v6 M h; cases h
  | succ n ih =>
    intro v6 M h
    rw [f_X10_copy_L105] at h
    refine rw_iload dX10_copy_105 rfl ?_
    refine rw_iload dX10_copy_107 rfl ?_
    refine rw_icmp_ge (tgt := 139) dX10_copy_109 (by decide) (fun c15 => ?_) (fun c15 => ?_)
    · have h := bw_it c15 h
      refine rw_iconst (v := 0) dX10_copy_139 (by decide) ?_
      refine rw_istore dX10_copy_140 (by decide) ?_
      exact rw_sub (rw_lc rfl (rw_lc rfl (rw_lc rfl (rw_lc rfl (rw_lc rfl rw_lz))))) (th_X10_copy_L142 bw_fu (0 : Int32) M h)
    · have h := bw_if c15 h
      refine rw_aload_n dX10_copy_112 rfl rfl ?_
      refine rw_get dX10_copy_113 fl_RX10_111 (sh_m w) (bw_kl (by decide)) rfl ?_
      refine rw_iload dX10_copy_116 rfl ?_
      refine rw_aload_n dX10_copy_118 rfl rfl ?_
      refine rw_get dX10_copy_119 fl_RX10_96 (sh_m w) (bw_kl (by decide)) rfl ?_
      refine rw_bipush (v := 24) dX10_copy_122 (by decide) ?_
      refine rw_iload_n dX10_copy_124 rfl rfl ?_
      refine rw_imul dX10_copy_125 ?_
      refine rw_iload_n dX10_copy_126 rfl rfl ?_
      refine rw_iadd dX10_copy_127 ?_
      refine rw_iload dX10_copy_128 rfl ?_
      refine rw_iadd dX10_copy_130 ?_
      obtain ⟨g20, h⟩ := bw_gd h
      refine rw_iald dX10_copy_131 (sh_m_cells w) (bw_kl (by decide)) (bw_in g20) ?_
      obtain ⟨g21, h⟩ := bw_gd h
      refine rw_iast dX10_copy_132 (sh_m_moved w) (bw_kl (by decide)) (bw_in g21) ?_
      obtain ⟨M22, hM22, h⟩ := bw_mlE h
      refine rw_m hM22.symm ?_
      refine rw_inc dX10_copy_133 rfl (by decide) ?_
      refine rw_goto (tgt := 105) dX10_copy_136 (by decide) ?_
      exact rw_sub (rw_lc rfl (rw_lc rfl (rw_lc rfl (rw_lc rfl (rw_lc rfl (rw_lc rfl (rw_lc rfl rw_lz))))))) (ih (v6 + 1) M22 h)
set_option maxRecDepth 20000 in
set_option maxHeartbeats 1000000 in
theorem ct_X10_copy {w : WE} {M : Mem} {v1 : Int32} {v2 : Int32} {v3 : Int32} {v4 : Int32} {v5 : Int32} {out : Int32 × Mem} (h : f_X10_copy M v1 v2 v3 v4 v5 = some out) : Ct w 2 yX10_copy cX10_copy 7 (some .int) [.ref (bw_ad w 93), .int v1, .int v2, .int v3, .int v4, .int v5] M (bw_pi (out.1) out.2) := by
  refine Ct.of (own := RX10) rfl (by decide) (by intro v hv; simp only [List.mem_cons, List.not_mem_nil, or_false] at hv; rcases hv with rfl | rfl | rfl | rfl | rfl | rfl <;> first | rfl | exact bw_cat_rf _) (Nat.le_of_ble_eq_true rfl) ?_
  unfold f_X10_copy at h
  show RW w 2 0 0 0 0 cX10_copy RX10 7 (some .int) (bw_Z w (bw_pi (out.1) out.2)) 0 [(0, .ref (bw_ad w 93)), (1, .int v1), (2, .int v2), (3, .int v3), (4, .int v4), (5, .int v5)] [] M
  refine rw_iload_n dX10_copy_0 rfl rfl ?_
  refine rw_callS1 dX10_copy_1 ln_RX10_343 ms_X10_isSheet (ct_X10_isSheet rfl) (Nat.le_of_ble_eq_true rfl) (Nat.le_of_ble_eq_true rfl) (bw_kkz (fun z1 => ?_))
  refine rw_if_eq (tgt := 14) dX10_copy_4 (by decide) (fun c2 => ?_) (fun c2 => ?_)
  · have h := bw_it c2 h
    refine rw_ldc dX10_copy_14 cn_RX10_125 ?_
    have h := Option.some.inj h
    subst h
    exact rw_iret dX10_copy_16 ⟨rfl, rfl⟩
  · have h := bw_if c2 h
    refine rw_iload_n dX10_copy_7 rfl rfl ?_
    refine rw_callS1 dX10_copy_8 ln_RX10_343 ms_X10_isSheet (ct_X10_isSheet rfl) (Nat.le_of_ble_eq_true rfl) (Nat.le_of_ble_eq_true rfl) (bw_kkz (fun z3 => ?_))
    refine rw_if_ne (tgt := 17) dX10_copy_11 (by decide) (fun c4 => ?_) (fun c4 => ?_)
    · have h := bw_if c4 h
      refine rw_aload_n dX10_copy_17 rfl rfl ?_
      refine rw_get dX10_copy_18 fl_RX10_90 (sh_m w) (bw_kl (by decide)) rfl ?_
      refine rw_iload_n dX10_copy_21 rfl rfl ?_
      obtain ⟨g5, h⟩ := bw_gd h
      refine rw_iald dX10_copy_22 (sh_m_sorts w) (bw_kl (by decide)) (bw_in g5) ?_
      refine rw_if_lt (tgt := 35) dX10_copy_23 (by decide) (fun c6 => ?_) (fun c6 => ?_)
      · have h := bw_it c6 h
        refine rw_ldcw dX10_copy_35 cn_RX10_347 ?_
        have h := Option.some.inj h
        subst h
        exact rw_iret dX10_copy_38 ⟨rfl, rfl⟩
      · have h := bw_if c6 h
        refine rw_aload_n dX10_copy_26 rfl rfl ?_
        refine rw_get dX10_copy_27 fl_RX10_90 (sh_m w) (bw_kl (by decide)) rfl ?_
        refine rw_iload_n dX10_copy_30 rfl rfl ?_
        obtain ⟨g7, h⟩ := bw_gd h
        refine rw_iald dX10_copy_31 (sh_m_sorts w) (bw_kl (by decide)) (bw_in g7) ?_
        refine rw_if_ge (tgt := 39) dX10_copy_32 (by decide) (fun c8 => ?_) (fun c8 => ?_)
        · have h := bw_it c8 h
          refine rw_aload_n dX10_copy_39 rfl rfl ?_
          refine rw_get dX10_copy_40 fl_RX10_90 (sh_m w) (bw_kl (by decide)) rfl ?_
          refine rw_iload_n dX10_copy_43 rfl rfl ?_
          refine rw_iald dX10_copy_44 (sh_m_sorts w) (bw_kl (by decide)) (bw_in g5) ?_
          refine rw_aload_n dX10_copy_45 rfl rfl ?_
          refine rw_get dX10_copy_46 fl_RX10_90 (sh_m w) (bw_kl (by decide)) rfl ?_
          refine rw_iload_n dX10_copy_49 rfl rfl ?_
          refine rw_iald dX10_copy_50 (sh_m_sorts w) (bw_kl (by decide)) (bw_in g7) ?_
          refine rw_icmp_eq (tgt := 57) dX10_copy_51 (by decide) (fun c9 => ?_) (fun c9 => ?_)
          · have h := bw_it c9 h
            refine rw_iload_n dX10_copy_57 rfl rfl ?_
            refine rw_if_lt (tgt := 98) dX10_copy_58 (by decide) (fun c10 => ?_) (fun c10 => ?_)
            · have h := bw_it c10 h
              refine rw_ldcw dX10_copy_98 cn_RX10_348 ?_
              have h := Option.some.inj h
              subst h
              exact rw_iret dX10_copy_101 ⟨rfl, rfl⟩
            · have h := bw_if c10 h
              refine rw_iload dX10_copy_61 rfl ?_
              refine rw_if_lt (tgt := 98) dX10_copy_63 (by decide) (fun c11 => ?_) (fun c11 => ?_)
              · have h := bw_it c11 h
                refine rw_ldcw dX10_copy_98 cn_RX10_348 ?_
                have h := Option.some.inj h
                subst h
                exact rw_iret dX10_copy_101 ⟨rfl, rfl⟩
              · have h := bw_if c11 h
                refine rw_iload dX10_copy_66 rfl ?_
                refine rw_if_lt (tgt := 98) dX10_copy_68 (by decide) (fun c12 => ?_) (fun c12 => ?_)
                · have h := bw_it c12 h
                  refine rw_ldcw dX10_copy_98 cn_RX10_348 ?_
                  have h := Option.some.inj h
                  subst h
                  exact rw_iret dX10_copy_101 ⟨rfl, rfl⟩
                · have h := bw_if c12 h
                  refine rw_iload_n dX10_copy_71 rfl rfl ?_
                  refine rw_aload_n dX10_copy_72 rfl rfl ?_
                  refine rw_get dX10_copy_73 fl_RX10_93 (sh_m w) (bw_kl (by decide)) rfl ?_
                  refine rw_iload_n dX10_copy_76 rfl rfl ?_
                  refine rw_iald dX10_copy_77 (sh_m_sizes w) (bw_kl (by decide)) (bw_in g5) ?_
                  refine rw_iload dX10_copy_78 rfl ?_
                  refine rw_isub dX10_copy_80 ?_
                  refine rw_icmp_gt (tgt := 98) dX10_copy_81 (by decide) (fun c13 => ?_) (fun c13 => ?_)
                  · have h := bw_it c13 h
                    refine rw_ldcw dX10_copy_98 cn_RX10_348 ?_
                    have h := Option.some.inj h
                    subst h
                    exact rw_iret dX10_copy_101 ⟨rfl, rfl⟩
                  · have h := bw_if c13 h
                    refine rw_iload dX10_copy_84 rfl ?_
                    refine rw_aload_n dX10_copy_86 rfl rfl ?_
                    refine rw_get dX10_copy_87 fl_RX10_93 (sh_m w) (bw_kl (by decide)) rfl ?_
                    refine rw_iload_n dX10_copy_90 rfl rfl ?_
                    refine rw_iald dX10_copy_91 (sh_m_sizes w) (bw_kl (by decide)) (bw_in g7) ?_
                    refine rw_iload dX10_copy_92 rfl ?_
                    refine rw_isub dX10_copy_94 ?_
                    refine rw_icmp_le (tgt := 102) dX10_copy_95 (by decide) (fun c14 => ?_) (fun c14 => ?_)
                    · have h := bw_it c14 h
                      refine rw_iconst (v := 0) dX10_copy_102 (by decide) ?_
                      refine rw_istore dX10_copy_103 (by decide) ?_
                      exact rw_sub (rw_lc rfl (rw_lc rfl (rw_lc rfl (rw_lc rfl (rw_lc rfl (rw_lc rfl (rw_lc rfl rw_lz))))))) (th_X10_copy_L105 bw_fu (0 : Int32) M h)
                    · have h := bw_if c14 h
                      refine rw_ldcw dX10_copy_98 cn_RX10_348 ?_
                      have h := Option.some.inj h
                      subst h
                      exact rw_iret dX10_copy_101 ⟨rfl, rfl⟩
          · have h := bw_if c9 h
            refine rw_ldc dX10_copy_54 cn_RX10_181 ?_
            have h := Option.some.inj h
            subst h
            exact rw_iret dX10_copy_56 ⟨rfl, rfl⟩
        · have h := bw_if c8 h
          refine rw_ldcw dX10_copy_35 cn_RX10_347 ?_
          have h := Option.some.inj h
          subst h
          exact rw_iret dX10_copy_38 ⟨rfl, rfl⟩
    · have h := bw_it c4 h
      refine rw_ldc dX10_copy_14 cn_RX10_125 ?_
      have h := Option.some.inj h
      subst h
      exact rw_iret dX10_copy_16 ⟨rfl, rfl⟩
set_option maxRecDepth 20000 in
set_option maxHeartbeats 1000000 in
theorem th_X10_lay_L150 {w : WE} {v1 : Int32} {v2 : Int32} {v3 : Int32} {v4 : Int32} {out : Int32 × Mem} : ∀ (n : Nat) (v5 : Int32) (M : Mem), f_X10_lay_L150 v1 v2 v3 v4 n v5 M = some out → RW w 2 0 0 0 0 cX10_lay RX10 6 (some .int) (bw_Z w (bw_pi (out.1) out.2)) 150 [(0, .ref (bw_ad w 93)), (1, .int v1), (2, .int v2), (3, .int v3), (4, .int v4), (5, .int v5)] [] M := by
  intro n
  induction n with
  | zero => intro v5 M h; cases h
  | succ n ih =>
    intro v5 M h
    rw [f_X10_lay_L150] at h
    refine rw_iload dX10_lay_150 rfl ?_
    refine rw_bipush (v := 24) dX10_lay_152 (by decide) ?_
    refine rw_icmp_ge (tgt := 192) dX10_lay_154 (by decide) (fun c17 => ?_) (fun c17 => ?_)
    · have h := bw_it c17 h
      refine rw_iload dX10_lay_192 rfl ?_
      have h := Option.some.inj h
      subst h
      exact rw_iret dX10_lay_194 ⟨rfl, rfl⟩
    · have h := bw_if c17 h
      refine rw_iload_n dX10_lay_157 rfl rfl ?_
      refine rw_iconst (v := 2) dX10_lay_158 (by decide) ?_
      refine rw_icmp_ne (tgt := 192) dX10_lay_159 (by decide) (fun c18 => ?_) (fun c18 => ?_)
      · have h := bw_if c18 h
        refine rw_iload dX10_lay_192 rfl ?_
        have h := Option.some.inj h
        subst h
        exact rw_iret dX10_lay_194 ⟨rfl, rfl⟩
      · have h := bw_it c18 h
        refine rw_aload_n dX10_lay_162 rfl rfl ?_
        refine rw_get dX10_lay_163 fl_RX10_108 (sh_m w) (bw_kl (by decide)) rfl ?_
        refine rw_bipush (v := 24) dX10_lay_166 (by decide) ?_
        refine rw_iload_n dX10_lay_168 rfl rfl ?_
        refine rw_imul dX10_lay_169 ?_
        refine rw_iload dX10_lay_170 rfl ?_
        refine rw_iadd dX10_lay_172 ?_
        refine rw_aload_n dX10_lay_173 rfl rfl ?_
        refine rw_get dX10_lay_174 fl_RX10_96 (sh_m w) (bw_kl (by decide)) rfl ?_
        refine rw_bipush (v := 24) dX10_lay_177 (by decide) ?_
        refine rw_iload_n dX10_lay_179 rfl rfl ?_
        refine rw_imul dX10_lay_180 ?_
        refine rw_iload dX10_lay_181 rfl ?_
        refine rw_iadd dX10_lay_183 ?_
        obtain ⟨g19, h⟩ := bw_gd h
        refine rw_iald dX10_lay_184 (sh_m_cells w) (bw_kl (by decide)) (bw_in g19) ?_
        obtain ⟨g20, h⟩ := bw_gd h
        refine rw_iast dX10_lay_185 (sh_m_heldCells w) (bw_kl (by decide)) (bw_in g20) ?_
        obtain ⟨M21, hM21, h⟩ := bw_mlE h
        refine rw_m hM21.symm ?_
        refine rw_inc dX10_lay_186 rfl (by decide) ?_
        refine rw_goto (tgt := 150) dX10_lay_189 (by decide) ?_
        exact rw_sub (rw_lc rfl (rw_lc rfl (rw_lc rfl (rw_lc rfl (rw_lc rfl (rw_lc rfl rw_lz)))))) (ih (v5 + 1) M21 h)
