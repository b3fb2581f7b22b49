set_option maxRecDepth 20000 in
set_option maxHeartbeats 1000000 in
theorem ct_X4_sizes {w : WE} {M : Mem} {t : Nat} (ht : bw_iT t) {out : Int32} (h : f_X4_sizes M t = some out) : Ct w 2 yX4_sizes cX4_sizes 2 (some .int) [.ref (bw_ad w t)] M (bw_pi (out) M) := by
  refine Ct.of (own := RX4) rfl (by decide) (by intro v hv; rw [List.mem_singleton.mp hv]; first | rfl | exact bw_cat_rf _) (Nat.le_of_ble_eq_true rfl) ?_
  unfold f_X4_sizes at h
  show RW w 2 0 0 0 0 cX4_sizes RX4 2 (some .int) (bw_Z w (bw_pi (out) M)) 0 [(0, .ref (bw_ad w t))] [] M
  refine rw_iconst (v := 0) dX4_sizes_0 (by decide) ?_
  refine rw_istore_n dX4_sizes_1 rfl (by decide) ?_
  exact rw_sub (rw_lc rfl (rw_lc rfl rw_lz)) (th_X4_sizes_L2 ht bw_fu (0 : Int32) h)
set_option maxRecDepth 20000 in
set_option maxHeartbeats 1000000 in
theorem ct_X5_finding {w : WE} {M : Mem} {u : Nat} {v1 : Int32} (hu : bw_iU u) {out : Int32} (h : f_X5_finding M u v1 = out) : Ct w 0 yX5_finding cX5_finding 2 (some .int) [.ref (bw_ad w u), .int v1] M (bw_pi (out) M) := by
  refine Ct.of (own := RX5) rfl (by decide) (by intro v hv; simp only [List.mem_cons, List.not_mem_nil, or_false] at hv; rcases hv with rfl | rfl <;> first | rfl | exact bw_cat_rf _) (Nat.le_of_ble_eq_true rfl) ?_
  unfold f_X5_finding at h
  show RW w 0 0 0 0 0 cX5_finding RX5 2 (some .int) (bw_Z w (bw_pi (out) M)) 0 [(0, .ref (bw_ad w u)), (1, .int v1)] [] M
  refine rw_aload_n dX5_finding_0 rfl rfl ?_
  refine rw_get dX5_finding_1 fl_RX5_25 (shU hu) (klU hu) rfl ?_
  refine rw_if_ne (tgt := 10) dX5_finding_4 (by decide) (fun c1 => ?_) (fun c1 => ?_)
  · have h := bw_if c1 h
    refine rw_aload_n dX5_finding_10 rfl rfl ?_
    refine rw_get dX5_finding_11 fl_RX5_25 (shU hu) (klU hu) rfl ?_
    refine rw_iload_n dX5_finding_14 rfl rfl ?_
    have key : RW w 0 0 0 0 0 cX5_finding RX5 2 (some .int) (bw_Z w (bw_pi (out) M)) 24 [] [.int (if (M u 0) = v1 then (0 : Int32) else (-1000000012 : Int32))] M := by
      subst h
      exact rw_iret dX5_finding_24 ⟨rfl, rfl⟩
    refine rw_icmp_ne (tgt := 22) dX5_finding_15 (by decide) (fun c2 => ?_) (fun c2 => ?_)
    · refine rw_ldc dX5_finding_22 cn_RX5_30 ?_
      simp only [if_neg c2] at key
      exact rw_sub rw_lz key
    · refine rw_iconst (v := 0) dX5_finding_18 (by decide) ?_
      refine rw_goto (tgt := 24) dX5_finding_19 (by decide) ?_
      simp only [if_pos c2] at key
      exact rw_sub rw_lz key
  · have h := bw_it c1 h
    refine rw_ldc dX5_finding_7 cn_RX5_29 ?_
    subst h
    exact rw_iret dX5_finding_9 ⟨rfl, rfl⟩
set_option maxRecDepth 20000 in
set_option maxHeartbeats 1000000 in
theorem th_X6_become_L172 {w : WE} {S : Nat} {S1 : Nat} (hS : bw_iS S) (hS1 : bw_iS S1) {out : Mem} : ∀ (n : Nat) (v2 : Int32) (M : Mem), f_X6_become_L172 S S1 n v2 M = some out → RW w 2 0 0 0 0 cX6_become RX6 3 none (bw_Z w (bw_pv out)) 172 [(0, .ref (bw_ad w S)), (1, .ref (bw_ad w S1)), (2, .int v2)] [] M := by
  intro n
  induction n with
  | zero => intro v2 M h; cases h
  | succ n ih =>
    intro v2 M h
    rw [f_X6_become_L172] at h
    refine rw_iload_n dX6_become_172 rfl rfl ?_
    refine rw_bipush (v := 14) dX6_become_173 (by decide) ?_
    refine rw_icmp_ge (tgt := 196) dX6_become_175 (by decide) (fun c13 => ?_) (fun c13 => ?_)
    · have h := bw_it c13 h
      have h := Option.some.inj h
      subst h
      exact rw_vret dX6_become_196 ⟨rfl, rfl⟩
    · have h := bw_if c13 h
      refine rw_aload_n dX6_become_178 rfl rfl ?_
      refine rw_get dX6_become_179 fl_RX6_49 (shS hS) (klS hS) rfl ?_
      refine rw_iload_n dX6_become_182 rfl rfl ?_
      refine rw_aload_n dX6_become_183 rfl rfl ?_
      refine rw_get dX6_become_184 fl_RX6_49 (shS hS1) (klS hS1) rfl ?_
      refine rw_iload_n dX6_become_187 rfl rfl ?_
      obtain ⟨g14, h⟩ := bw_gd h
      refine rw_aaldL dX6_become_188 (shS7 hS1) (klS7 hS1) (bw_in g14) ?_
      obtain ⟨g15, h⟩ := bw_gd h
      refine rw_aastL dX6_become_189 (shS7 hS) (klS7 hS) (bw_in g14) g15 ?_
      obtain ⟨M16, hM16, h⟩ := bw_mlE h
      refine rw_m hM16.symm ?_
      refine rw_inc dX6_become_190 rfl (by decide) ?_
      refine rw_goto (tgt := 172) dX6_become_193 (by decide) ?_
      exact rw_sub (rw_lc rfl (rw_lc rfl (rw_lc rfl rw_lz))) (ih (v2 + 1) M16 h)
set_option maxRecDepth 20000 in
set_option maxHeartbeats 1000000 in
theorem th_X6_become_L112 {w : WE} {S : Nat} {S1 : Nat} (hS : bw_iS S) (hS1 : bw_iS S1) {out : Mem} : ∀ (n : Nat) (v2 : Int32) (M : Mem), f_X6_become_L112 S S1 n v2 M = some out → RW w 2 0 0 0 0 cX6_become RX6 3 none (bw_Z w (bw_pv out)) 112 [(0, .ref (bw_ad w S)), (1, .ref (bw_ad w S1)), (2, .int v2)] [] M := by
  intro n
  induction n with
  | zero => intro v2 M h; cases h
  | succ n ih =>
    intro v2 M h
    rw [f_X6_become_L112] at h
    refine rw_iload_n dX6_become_112 rfl rfl ?_
    refine rw_bipush (v := 12) dX6_become_113 (by decide) ?_
    refine rw_icmp_ge (tgt := 139) dX6_become_115 (by decide) (fun c8 => ?_) (fun c8 => ?_)
    · have h := bw_it c8 h
      refine rw_aload_n dX6_become_139 rfl rfl ?_
      refine rw_aload_n dX6_become_140 rfl rfl ?_
      refine rw_get dX6_become_141 fl_RX6_64 (shS hS1) (klS hS1) rfl ?_
      refine rw_puti dX6_become_144 fl_RX6_64 fp_6_11 (shS hS) (klS hS) (by decide) (fun _ => rfl) (fun _ => Nat.le_of_ble_eq_true rfl) ?_
      obtain ⟨M9, hM9, h⟩ := bw_mlE h
      refine rw_m hM9.symm ?_
      refine rw_aload_n dX6_become_147 rfl rfl ?_
      refine rw_get dX6_become_148 fl_RX6_44 (shS hS1) (klS hS1) rfl ?_
      refine rw_iconst (v := 0) dX6_become_151 (by decide) ?_
      refine rw_aload_n dX6_become_152 rfl rfl ?_
      refine rw_get dX6_become_153 fl_RX6_44 (shS hS) (klS hS) rfl ?_
      refine rw_iconst (v := 0) dX6_become_156 (by decide) ?_
      refine rw_bipush (v := 6) dX6_become_157 (by decide) ?_
      obtain ⟨g10, h⟩ := bw_gd h
      refine rw_acopy dX6_become_159 lj_RX6_67 ac_w (shS6 hS1) (klS6 hS1) (shS6 hS) (klS6 hS) g10 (Nat.le_of_ble_eq_true rfl) (Nat.le_of_ble_eq_true rfl) ?_
      obtain ⟨M11, hM11, h⟩ := bw_mlE h
      refine rw_m hM11.symm ?_
      refine rw_aload_n dX6_become_162 rfl rfl ?_
      refine rw_aload_n dX6_become_163 rfl rfl ?_
      refine rw_get dX6_become_164 fl_RX6_73 (shS hS1) (klS hS1) rfl ?_
      refine rw_puti dX6_become_167 fl_RX6_73 fp_6_13 (shS hS) (klS hS) (by decide) (fun _ => rfl) (fun _ => Nat.le_of_ble_eq_true rfl) ?_
      obtain ⟨M12, hM12, h⟩ := bw_mlE h
      refine rw_m hM12.symm ?_
      refine rw_iconst (v := 0) dX6_become_170 (by decide) ?_
      refine rw_istore_n dX6_become_171 rfl (by decide) ?_
      exact rw_sub (rw_lc rfl (rw_lc rfl (rw_lc rfl rw_lz))) (th_X6_become_L172 hS hS1 bw_fu (0 : Int32) M12 h)
    · have h := bw_if c8 h
      refine rw_aload_n dX6_become_118 rfl rfl ?_
      refine rw_get dX6_become_119 fl_RX6_40 (shS hS) (klS hS) rfl ?_
      refine rw_iload_n dX6_become_122 rfl rfl ?_
      obtain ⟨g17, h⟩ := bw_gd h
      refine rw_aaldR dX6_become_123 (shS5 hS) rfl (klS5 hS) (bw_in g17) ?_
      refine rw_aload_n dX6_become_124 rfl rfl ?_
      refine rw_get dX6_become_125 fl_RX6_40 (shS hS1) (klS hS1) rfl ?_
      refine rw_iload_n dX6_become_128 rfl rfl ?_
      refine rw_aaldR dX6_become_129 (shS5 hS1) rfl (klS5 hS1) (bw_in g17) ?_
      obtain ⟨q18, hq18, h⟩ := bw_bd h
      refine rw_callV1 dX6_become_130 ln_RX6_60 mv_X0_become (shB (iB_S hS (bw_lt g17))) (klB (iB_S hS (bw_lt g17))) (ct_X0_become (iB_S hS (bw_lt g17)) (iB_S hS1 (bw_lt g17)) hq18) (Nat.le_of_ble_eq_true rfl) (Nat.le_of_ble_eq_true rfl) (bw_kkv ?_)
      refine rw_inc dX6_become_133 rfl (by decide) ?_
      refine rw_goto (tgt := 112) dX6_become_136 (by decide) ?_
      exact rw_sub (rw_lc rfl (rw_lc rfl (rw_lc rfl rw_lz))) (ih (v2 + 1) q18 h)
set_option maxRecDepth 20000 in
set_option maxHeartbeats 1000000 in
theorem th_X6_become_L10 {w : WE} {S : Nat} {S1 : Nat} (hS : bw_iS S) (hS1 : bw_iS S1) {out : Mem} : ∀ (n : Nat) (v2 : Int32) (M : Mem), f_X6_become_L10 S S1 n v2 M = some out → RW w 2 0 0 0 0 cX6_become RX6 3 none (bw_Z w (bw_pv out)) 10 [(0, .ref (bw_ad w S)), (1, .ref (bw_ad w S1)), (2, .int v2)] [] M := by
  intro n
  induction n with
  | zero => intro v2 M h; cases h
  | succ n ih =>
    intro v2 M h
    rw [f_X6_become_L10] at h
    refine rw_iload_n dX6_become_10 rfl rfl ?_
    refine rw_bipush (v := 24) dX6_become_11 (by decide) ?_
    refine rw_icmp_ge (tgt := 70) dX6_become_13 (by decide) (fun c2 => ?_) (fun c2 => ?_)
    · have h := bw_it c2 h
      refine rw_aload_n dX6_become_70 rfl rfl ?_
      refine rw_aload_n dX6_become_71 rfl rfl ?_
      refine rw_get dX6_become_72 fl_RX6_25 (shS hS1) (klS hS1) rfl ?_
      refine rw_puti dX6_become_75 fl_RX6_25 fp_6_5 (shS hS) (klS hS) (by decide) (fun _ => rfl) (fun _ => Nat.le_of_ble_eq_true rfl) ?_
      obtain ⟨M3, hM3, h⟩ := bw_mlE h
      refine rw_m hM3.symm ?_
      refine rw_aload_n dX6_become_78 rfl rfl ?_
      refine rw_aload_n dX6_become_79 rfl rfl ?_
      refine rw_get dX6_become_80 fl_RX6_29 (shS hS1) (klS hS1) rfl ?_
      refine rw_puti dX6_become_83 fl_RX6_29 fp_6_6 (shS hS) (klS hS) (by decide) (fun _ => rfl) (fun _ => Nat.le_of_ble_eq_true rfl) ?_
      obtain ⟨M4, hM4, h⟩ := bw_mlE h
      refine rw_m hM4.symm ?_
      refine rw_aload_n dX6_become_86 rfl rfl ?_
      refine rw_aload_n dX6_become_87 rfl rfl ?_
      refine rw_get dX6_become_88 fl_RX6_32 (shS hS1) (klS hS1) rfl ?_
      refine rw_puti dX6_become_91 fl_RX6_32 fp_6_7 (shS hS) (klS hS) (by decide) (fun _ => rfl) (fun _ => Nat.le_of_ble_eq_true rfl) ?_
      obtain ⟨M5, hM5, h⟩ := bw_mlE h
      refine rw_m hM5.symm ?_
      refine rw_aload_n dX6_become_94 rfl rfl ?_
      refine rw_aload_n dX6_become_95 rfl rfl ?_
      refine rw_get dX6_become_96 fl_RX6_35 (shS hS1) (klS hS1) rfl ?_
      refine rw_puti dX6_become_99 fl_RX6_35 fp_6_8 (shS hS) (klS hS) (by decide) (fun _ => rfl) (fun _ => Nat.le_of_ble_eq_true rfl) ?_
      obtain ⟨M6, hM6, h⟩ := bw_mlE h
      refine rw_m hM6.symm ?_
      refine rw_aload_n dX6_become_102 rfl rfl ?_
      refine rw_aload_n dX6_become_103 rfl rfl ?_
      refine rw_get dX6_become_104 fl_RX6_57 (shS hS1) (klS hS1) rfl ?_
      refine rw_puti dX6_become_107 fl_RX6_57 fp_6_9 (shS hS) (klS hS) (by decide) (fun _ => rfl) (fun _ => Nat.le_of_ble_eq_true rfl) ?_
      obtain ⟨M7, hM7, h⟩ := bw_mlE h
      refine rw_m hM7.symm ?_
      refine rw_iconst (v := 0) dX6_become_110 (by decide) ?_
      refine rw_istore_n dX6_become_111 rfl (by decide) ?_
      exact rw_sub (rw_lc rfl (rw_lc rfl (rw_lc rfl rw_lz))) (th_X6_become_L112 hS hS1 bw_fu (0 : Int32) M7 h)
    · have h := bw_if c2 h
      refine rw_aload_n dX6_become_16 rfl rfl ?_
      refine rw_get dX6_become_17 fl_RX6_9 (shS hS) (klS hS) rfl ?_
      refine rw_iload_n dX6_become_20 rfl rfl ?_
      refine rw_aload_n dX6_become_21 rfl rfl ?_
      refine rw_get dX6_become_22 fl_RX6_9 (shS hS1) (klS hS1) rfl ?_
      refine rw_iload_n dX6_become_25 rfl rfl ?_
      obtain ⟨g19, h⟩ := bw_gd h
      refine rw_iald dX6_become_26 (shS1 hS1) (klS1 hS1) (bw_in g19) ?_
      refine rw_iast dX6_become_27 (shS1 hS) (klS1 hS) (bw_in g19) ?_
      obtain ⟨M20, hM20, h⟩ := bw_mlE h
      refine rw_m hM20.symm ?_
      refine rw_aload_n dX6_become_28 rfl rfl ?_
      refine rw_get dX6_become_29 fl_RX6_15 (shS hS) (klS hS) rfl ?_
      refine rw_iload_n dX6_become_32 rfl rfl ?_
      refine rw_aload_n dX6_become_33 rfl rfl ?_
      refine rw_get dX6_become_34 fl_RX6_15 (shS hS1) (klS hS1) rfl ?_
      refine rw_iload_n dX6_become_37 rfl rfl ?_
      refine rw_iald dX6_become_38 (shS2 hS1) (klS2 hS1) (bw_in g19) ?_
      refine rw_iast dX6_become_39 (shS2 hS) (klS2 hS) (bw_in g19) ?_
      obtain ⟨M21, hM21, h⟩ := bw_mlE h
      refine rw_m hM21.symm ?_
      refine rw_aload_n dX6_become_40 rfl rfl ?_
      refine rw_get dX6_become_41 fl_RX6_18 (shS hS) (klS hS) rfl ?_
      refine rw_iload_n dX6_become_44 rfl rfl ?_
      refine rw_aload_n dX6_become_45 rfl rfl ?_
      refine rw_get dX6_become_46 fl_RX6_18 (shS hS1) (klS hS1) rfl ?_
      refine rw_iload_n dX6_become_49 rfl rfl ?_
      refine rw_iald dX6_become_50 (shS3 hS1) (klS3 hS1) (bw_in g19) ?_
      refine rw_iast dX6_become_51 (shS3 hS) (klS3 hS) (bw_in g19) ?_
      obtain ⟨M22, hM22, h⟩ := bw_mlE h
      refine rw_m hM22.symm ?_
      refine rw_aload_n dX6_become_52 rfl rfl ?_
      refine rw_get dX6_become_53 fl_RX6_21 (shS hS) (klS hS) rfl ?_
      refine rw_iload_n dX6_become_56 rfl rfl ?_
      refine rw_aload_n dX6_become_57 rfl rfl ?_
      refine rw_get dX6_become_58 fl_RX6_21 (shS hS1) (klS hS1) rfl ?_
      refine rw_iload_n dX6_become_61 rfl rfl ?_
      refine rw_zald dX6_become_62 (shS4 hS1) (klS4 hS1) (bw_in g19) ?_
      refine rw_zast dX6_become_63 (shS4 hS) (klS4 hS) (bw_in g19) ?_
      obtain ⟨M23, hM23, h⟩ := bw_mlE h
      refine rw_m hM23.symm ?_
      refine rw_inc dX6_become_64 rfl (by decide) ?_
      refine rw_goto (tgt := 10) dX6_become_67 (by decide) ?_
      exact rw_sub (rw_lc rfl (rw_lc rfl (rw_lc rfl rw_lz))) (ih (v2 + 1) M23 h)
set_option maxRecDepth 20000 in
set_option maxHeartbeats 1000000 in
theorem ct_X6_become {w : WE} {M : Mem} {S : Nat} {S1 : Nat} (hS : bw_iS S) (hS1 : bw_iS S1) {out : Mem} (h : f_X6_become M S S1 = some out) : Ct w 2 yX6_become cX6_become 3 none [.ref (bw_ad w S), .ref (bw_ad w S1)] M (bw_pv out) := by
  refine Ct.of (own := RX6) rfl (by decide) (by intro v hv; simp only [List.mem_cons, List.not_mem_nil, or_false] at hv; rcases hv with rfl | rfl <;> first | rfl | exact bw_cat_rf _) (Nat.le_of_ble_eq_true rfl) ?_
  unfold f_X6_become at h
  show RW w 2 0 0 0 0 cX6_become RX6 3 none (bw_Z w (bw_pv out)) 0 [(0, .ref (bw_ad w S)), (1, .ref (bw_ad w S1))] [] M
  refine rw_aload_n dX6_become_0 rfl rfl ?_
  refine rw_aload_n dX6_become_1 rfl rfl ?_
  refine rw_get dX6_become_2 fl_RX6_54 (shS hS1) (klS hS1) rfl ?_
  refine rw_puti dX6_become_5 fl_RX6_54 fp_6_0 (shS hS) (klS hS) (by decide) (fun _ => rfl) (fun _ => Nat.le_of_ble_eq_true rfl) ?_
  obtain ⟨M1, hM1, h⟩ := bw_mlE h
  refine rw_m hM1.symm ?_
  refine rw_iconst (v := 0) dX6_become_8 (by decide) ?_
  refine rw_istore_n dX6_become_9 rfl (by decide) ?_
  exact rw_sub (rw_lc rfl (rw_lc rfl (rw_lc rfl rw_lz))) (th_X6_become_L10 hS hS1 bw_fu (0 : Int32) M1 h)
set_option maxRecDepth 20000 in
set_option maxHeartbeats 1000000 in
theorem ct_X6_addBook {w : WE} {M : Mem} {S : Nat} {v1 : Int32} {v2 : Int32} {v3 : Int32} (hS : bw_iS S) {out : Int32 × Mem} (h : f_X6_addBook M S v1 v2 v3 = some out) : Ct w 0 yX6_addBook cX6_addBook 4 (some .int) [.ref (bw_ad w S), .int v1, .int v2, .int v3] M (bw_pi (out.1) out.2) := by
  refine Ct.of (own := RX6) rfl (by decide) (by intro v hv; simp only [List.mem_cons, List.not_mem_nil, or_false] at hv; rcases hv with rfl | rfl | rfl | rfl <;> first | rfl | exact bw_cat_rf _) (Nat.le_of_ble_eq_true rfl) ?_
  unfold f_X6_addBook at h
  show RW w 0 0 0 0 0 cX6_addBook RX6 4 (some .int) (bw_Z w (bw_pi (out.1) out.2)) 0 [(0, .ref (bw_ad w S)), (1, .int v1), (2, .int v2), (3, .int v3)] [] M
  refine rw_aload_n dX6_addBook_0 rfl rfl ?_
  refine rw_get dX6_addBook_1 fl_RX6_54 (shS hS) (klS hS) rfl ?_
  refine rw_bipush (v := 24) dX6_addBook_4 (by decide) ?_
  refine rw_icmp_lt (tgt := 12) dX6_addBook_6 (by decide) (fun c1 => ?_) (fun c1 => ?_)
  · have h := bw_it c1 h
    refine rw_aload_n dX6_addBook_12 rfl rfl ?_
    refine rw_get dX6_addBook_13 fl_RX6_9 (shS hS) (klS hS) rfl ?_
    refine rw_aload_n dX6_addBook_16 rfl rfl ?_
    refine rw_get dX6_addBook_17 fl_RX6_54 (shS hS) (klS hS) rfl ?_
    refine rw_iload_n dX6_addBook_20 rfl rfl ?_
    obtain ⟨g2, h⟩ := bw_gd h
    refine rw_iast dX6_addBook_21 (shS1 hS) (klS1 hS) (bw_in g2) ?_
    obtain ⟨M3, hM3, h⟩ := bw_mlE h
    refine rw_m hM3.symm ?_
    refine rw_aload_n dX6_addBook_22 rfl rfl ?_
    refine rw_get dX6_addBook_23 fl_RX6_15 (shS hS) (klS hS) rfl ?_
    refine rw_aload_n dX6_addBook_26 rfl rfl ?_
    refine rw_get dX6_addBook_27 fl_RX6_54 (shS hS) (klS hS) rfl ?_
    refine rw_iload_n dX6_addBook_30 rfl rfl ?_
    obtain ⟨g4, h⟩ := bw_gd h
    refine rw_iast dX6_addBook_31 (shS2 hS) (klS2 hS) (bw_in g4) ?_
    obtain ⟨M5, hM5, h⟩ := bw_mlE h
    refine rw_m hM5.symm ?_
    refine rw_aload_n dX6_addBook_32 rfl rfl ?_
    refine rw_get dX6_addBook_33 fl_RX6_18 (shS hS) (klS hS) rfl ?_
    refine rw_aload_n dX6_addBook_36 rfl rfl ?_
    refine rw_get dX6_addBook_37 fl_RX6_54 (shS hS) (klS hS) rfl ?_
    refine rw_iload_n dX6_addBook_40 rfl rfl ?_
    obtain ⟨g6, h⟩ := bw_gd h
    refine rw_iast dX6_addBook_41 (shS3 hS) (klS3 hS) (bw_in g6) ?_
    obtain ⟨M7, hM7, h⟩ := bw_mlE h
    refine rw_m hM7.symm ?_
    refine rw_aload_n dX6_addBook_42 rfl rfl ?_
    refine rw_get dX6_addBook_43 fl_RX6_21 (shS hS) (klS hS) rfl ?_
    refine rw_aload_n dX6_addBook_46 rfl rfl ?_
    refine rw_get dX6_addBook_47 fl_RX6_54 (shS hS) (klS hS) rfl ?_
    refine rw_iconst (v := 0) dX6_addBook_50 (by decide) ?_
    obtain ⟨g8, h⟩ := bw_gd h
    refine rw_zast dX6_addBook_51 (shS4 hS) (klS4 hS) (bw_in g8) ?_
    obtain ⟨M9, hM9, h⟩ := bw_mlE h
    refine rw_m hM9.symm ?_
    refine rw_aload_n dX6_addBook_52 rfl rfl ?_
    refine rw_dup dX6_addBook_53 rfl ?_
    refine rw_get dX6_addBook_54 fl_RX6_54 (shS hS) (klS hS) rfl ?_
    refine rw_iconst (v := 1) dX6_addBook_57 (by decide) ?_
    refine rw_iadd dX6_addBook_58 ?_
    refine rw_puti dX6_addBook_59 fl_RX6_54 fp_6_0 (shS hS) (klS hS) (by decide) (fun _ => rfl) (fun _ => Nat.le_of_ble_eq_true rfl) ?_
    obtain ⟨M10, hM10, h⟩ := bw_mlE h
    refine rw_m hM10.symm ?_
    refine rw_aload_n dX6_addBook_62 rfl rfl ?_
    refine rw_get dX6_addBook_63 fl_RX6_54 (shS hS) (klS hS) rfl ?_
    refine rw_iconst (v := 1) dX6_addBook_66 (by decide) ?_
    refine rw_isub dX6_addBook_67 ?_
    have h := Option.some.inj h
    subst h
    exact rw_iret dX6_addBook_68 ⟨rfl, rfl⟩
  · have h := bw_if c1 h
    refine rw_ldc dX6_addBook_9 cn_RX6_80 ?_
    have h := Option.some.inj h
    subst h
    exact rw_iret dX6_addBook_11 ⟨rfl, rfl⟩
set_option maxRecDepth 20000 in
set_option maxHeartbeats 1000000 in
theorem ct_X6_draw {w : WE} {M : Mem} {S : Nat} (hS : bw_iS S) {out : Int32 × Mem} (h : f_X6_draw M S = some out) : Ct w 0 yX6_draw cX6_draw 1 (some .int) [.ref (bw_ad w S)] M (bw_pi (out.1) out.2) := by
  refine Ct.of (own := RX6) rfl (by decide) (by intro v hv; rw [List.mem_singleton.mp hv]; first | rfl | exact bw_cat_rf _) (Nat.le_of_ble_eq_true rfl) ?_
  unfold f_X6_draw at h
  show RW w 0 0 0 0 0 cX6_draw RX6 1 (some .int) (bw_Z w (bw_pi (out.1) out.2)) 0 [(0, .ref (bw_ad w S))] [] M
  refine rw_aload_n dX6_draw_0 rfl rfl ?_
  refine rw_aload_n dX6_draw_1 rfl rfl ?_
  refine rw_get dX6_draw_2 fl_RX6_35 (shS hS) (klS hS) rfl ?_
  refine rw_ldc dX6_draw_5 cn_RX6_81 ?_
  refine rw_imul dX6_draw_7 ?_
  refine rw_sipush (v := 12345) dX6_draw_8 (by decide) ?_
  refine rw_iadd dX6_draw_11 ?_
  refine rw_puti dX6_draw_12 fl_RX6_35 fp_6_8 (shS hS) (klS hS) (by decide) (fun _ => rfl) (fun _ => Nat.le_of_ble_eq_true rfl) ?_
  obtain ⟨M1, hM1, h⟩ := bw_mlE h
  refine rw_m hM1.symm ?_
  refine rw_aload_n dX6_draw_15 rfl rfl ?_
  refine rw_get dX6_draw_16 fl_RX6_35 (shS hS) (klS hS) rfl ?_
  refine rw_bipush (v := 8) dX6_draw_19 (by decide) ?_
  refine rw_iushr dX6_draw_21 ?_
  have h := Option.some.inj h
  subst h
  exact rw_iret dX6_draw_22 ⟨rfl, rfl⟩
set_option maxRecDepth 20000 in
set_option maxHeartbeats 1000000 in
theorem th_X6_tiedBooks_L4 {w : WE} {M : Mem} {S : Nat} (hS : bw_iS S) {out : Int32} : ∀ (n : Nat) (v1 : Int32) (v2 : Int32), f_X6_tiedBooks_L4 M S n v1 v2 = some out → RW w 0 0 0 0 0 cX6_tiedBooks RX6 3 (some .int) (bw_Z w (bw_pi (out) M)) 4 [(0, .ref (bw_ad w S)), (1, .int v1), (2, .int v2)] [] M := by
  intro n
  induction n with
  | zero => intro v1 v2 h; cases h
  | succ n ih =>
    intro v1 v2 h
    rw [f_X6_tiedBooks_L4] at h
    refine rw_iload_n dX6_tiedBooks_4 rfl rfl ?_
    refine rw_aload_n dX6_tiedBooks_5 rfl rfl ?_
    refine rw_get dX6_tiedBooks_6 fl_RX6_54 (shS hS) (klS hS) rfl ?_
    refine rw_icmp_ge (tgt := 35) dX6_tiedBooks_9 (by decide) (fun c1 => ?_) (fun c1 => ?_)
    · have h := bw_it c1 h
      refine rw_iload_n dX6_tiedBooks_35 rfl rfl ?_
      have h := Option.some.inj h
      subst h
      exact rw_iret dX6_tiedBooks_36 ⟨rfl, rfl⟩
    · have h := bw_if c1 h
      refine rw_iload_n dX6_tiedBooks_12 rfl rfl ?_
      refine rw_aload_n dX6_tiedBooks_13 rfl rfl ?_
      refine rw_get dX6_tiedBooks_14 fl_RX6_21 (shS hS) (klS hS) rfl ?_
      refine rw_iload_n dX6_tiedBooks_17 rfl rfl ?_
      obtain ⟨g2, h⟩ := bw_gd h
      refine rw_zald dX6_tiedBooks_18 (shS4 hS) (klS4 hS) (bw_in g2) ?_
      have key : RW w 0 0 0 0 0 cX6_tiedBooks RX6 3 (some .int) (bw_Z w (bw_pi (out) M)) 27 [(0, .ref (bw_ad w S)), (2, .int v2)] [.int (if (M (S + 4) v2.toNatClampNeg) = 0 then (0 : Int32) else (1 : Int32)), .int v1] M := by
        refine rw_iadd dX6_tiedBooks_27 ?_
        obtain ⟨x4, hx4, h⟩ := bw_mlE h
        refine rw_ti hx4 ?_
        refine rw_istore_n dX6_tiedBooks_28 rfl (by decide) ?_
        refine rw_inc dX6_tiedBooks_29 rfl (by decide) ?_
        refine rw_goto (tgt := 4) dX6_tiedBooks_32 (by decide) ?_
        exact rw_sub (rw_lc rfl (rw_lc rfl (rw_lc rfl rw_lz))) (ih x4 (v2 + 1) h)
      refine rw_if_eq (tgt := 26) dX6_tiedBooks_19 (by decide) (fun c3 => ?_) (fun c3 => ?_)
      · refine rw_iconst (v := 0) dX6_tiedBooks_26 (by decide) ?_
        simp only [if_pos c3] at key
        exact rw_sub (rw_lc rfl (rw_lc rfl rw_lz)) key
      · refine rw_iconst (v := 1) dX6_tiedBooks_22 (by decide) ?_
        refine rw_goto (tgt := 27) dX6_tiedBooks_23 (by decide) ?_
        simp only [if_neg c3] at key
        exact rw_sub (rw_lc rfl (rw_lc rfl rw_lz)) key
set_option maxRecDepth 20000 in
set_option maxHeartbeats 1000000 in
theorem ct_X6_tiedBooks {w : WE} {M : Mem} {S : Nat} (hS : bw_iS S) {out : Int32} (h : f_X6_tiedBooks M S = some out) : Ct w 0 yX6_tiedBooks cX6_tiedBooks 3 (some .int) [.ref (bw_ad w S)] M (bw_pi (out) M) := by
  refine Ct.of (own := RX6) rfl (by decide) (by intro v hv; rw [List.mem_singleton.mp hv]; first | rfl | exact bw_cat_rf _) (Nat.le_of_ble_eq_true rfl) ?_
  unfold f_X6_tiedBooks at h
  show RW w 0 0 0 0 0 cX6_tiedBooks RX6 3 (some .int) (bw_Z w (bw_pi (out) M)) 0 [(0, .ref (bw_ad w S))] [] M
  refine rw_iconst (v := 0) dX6_tiedBooks_0 (by decide) ?_
  refine rw_istore_n dX6_tiedBooks_1 rfl (by decide) ?_
  refine rw_iconst (v := 0) dX6_tiedBooks_2 (by decide) ?_
  refine rw_istore_n dX6_tiedBooks_3 rfl (by decide) ?_
  exact rw_sub (rw_lc rfl (rw_lc rfl (rw_lc rfl rw_lz))) (th_X6_tiedBooks_L4 hS bw_fu (0 : Int32) (0 : Int32) h)
set_option maxRecDepth 20000 in
set_option maxHeartbeats 1000000 in
theorem th_X6_hasHeight_L2 {w : WE} {M : Mem} {S : Nat} {v1 : Int32} (hS : bw_iS S) {out : Int32} : ∀ (n : Nat) (v2 : Int32), f_X6_hasHeight_L2 M S v1 n v2 = some out → RW w 0 0 0 0 0 cX6_hasHeight RX6 3 (some .boolean) (bw_Z w (bw_pz (out) M)) 2 [(0, .ref (bw_ad w S)), (1, .int v1), (2, .int v2)] [] M := by
  intro n
  induction n with
  | zero => intro v2 h; cases h
  | succ n ih =>
    intro v2 h
    rw [f_X6_hasHeight_L2] at h
    refine rw_iload_n dX6_hasHeight_2 rfl rfl ?_
    refine rw_aload_n dX6_hasHeight_3 rfl rfl ?_
    refine rw_get dX6_hasHeight_4 fl_RX6_54 (shS hS) (klS hS) rfl ?_
    refine rw_icmp_ge (tgt := 28) dX6_hasHeight_7 (by decide) (fun c1 => ?_) (fun c1 => ?_)
    · have h := bw_it c1 h
      refine rw_iconst (v := 0) dX6_hasHeight_28 (by decide) ?_
      have h := Option.some.inj h
      subst h
      exact rw_zret dX6_hasHeight_29 bw_n0 ⟨rfl, rfl, bw_n0⟩
    · have h := bw_if c1 h
      refine rw_aload_n dX6_hasHeight_10 rfl rfl ?_
      refine rw_get dX6_hasHeight_11 fl_RX6_9 (shS hS) (klS hS) rfl ?_
      refine rw_iload_n dX6_hasHeight_14 rfl rfl ?_
      obtain ⟨g2, h⟩ := bw_gd h
      refine rw_iald dX6_hasHeight_15 (shS1 hS) (klS1 hS) (bw_in g2) ?_
      refine rw_iload_n dX6_hasHeight_16 rfl rfl ?_
      refine rw_icmp_ne (tgt := 22) dX6_hasHeight_17 (by decide) (fun c3 => ?_) (fun c3 => ?_)
      · have h := bw_if c3 h
        refine rw_inc dX6_hasHeight_22 rfl (by decide) ?_
        refine rw_goto (tgt := 2) dX6_hasHeight_25 (by decide) ?_
        exact rw_sub (rw_lc rfl (rw_lc rfl (rw_lc rfl rw_lz))) (ih (v2 + 1) h)
      · have h := bw_it c3 h
        refine rw_iconst (v := 1) dX6_hasHeight_20 (by decide) ?_
        have h := Option.some.inj h
        subst h
        exact rw_zret dX6_hasHeight_21 bw_n1 ⟨rfl, rfl, bw_n1⟩
set_option maxRecDepth 20000 in
set_option maxHeartbeats 1000000 in
theorem ct_X6_hasHeight {w : WE} {M : Mem} {S : Nat} {v1 : Int32} (hS : bw_iS S) {out : Int32} (h : f_X6_hasHeight M S v1 = some out) : Ct w 0 yX6_hasHeight cX6_hasHeight 3 (some .boolean) [.ref (bw_ad w S), .int v1] M (bw_pz (out) M) := by
  refine Ct.of (own := RX6) rfl (by decide) (by intro v hv; simp only [List.mem_cons, List.not_mem_nil, or_false] at hv; rcases hv with rfl | rfl <;> first | rfl | exact bw_cat_rf _) (Nat.le_of_ble_eq_true rfl) ?_
  unfold f_X6_hasHeight at h
  show RW w 0 0 0 0 0 cX6_hasHeight RX6 3 (some .boolean) (bw_Z w (bw_pz (out) M)) 0 [(0, .ref (bw_ad w S)), (1, .int v1)] [] M
  refine rw_iconst (v := 0) dX6_hasHeight_0 (by decide) ?_
  refine rw_istore_n dX6_hasHeight_1 rfl (by decide) ?_
  exact rw_sub (rw_lc rfl (rw_lc rfl (rw_lc rfl rw_lz))) (th_X6_hasHeight_L2 hS bw_fu (0 : Int32) h)
set_option maxRecDepth 20000 in
set_option maxHeartbeats 1000000 in
theorem th_X6_unlikeHeights_L4 {w : WE} {S : Nat} (hS : bw_iS S) {out : Int32 × Mem} : ∀ (n : Nat) (v2 : Int32) (v3 : Int32) (M : Mem), f_X6_unlikeHeights_L4 S n v2 v3 M = some out → RW w 1 0 0 0 0 cX6_unlikeHeights RX6 4 (some .int) (bw_Z w (bw_pi (out.1) out.2)) 4 [(0, .ref (bw_ad w S)), (1, .ref (bw_ad w 21)), (2, .int v2), (3, .int v3)] [] M := by
  intro n
  induction n with
  | zero => intro v2 v3 M h; cases h
  | succ n ih =>
    intro v2 v3 M h
    rw [f_X6_unlikeHeights_L4] at h
    refine rw_iload_n dX6_unlikeHeights_4 rfl rfl ?_
    refine rw_bipush (v := 99) dX6_unlikeHeights_5 (by decide) ?_
    refine rw_icmp_gt (tgt := 37) dX6_unlikeHeights_7 (by decide) (fun c1 => ?_) (fun c1 => ?_)
    · have h := bw_it c1 h
      refine rw_iload_n dX6_unlikeHeights_37 rfl rfl ?_
      have h := Option.some.inj h
      subst h
      exact rw_iret dX6_unlikeHeights_38 ⟨rfl, rfl⟩
    · have h := bw_if c1 h
      refine rw_iload_n dX6_unlikeHeights_10 rfl rfl ?_
      refine rw_aload_n dX6_unlikeHeights_11 rfl rfl ?_
      refine rw_alen (v := 24) dX6_unlikeHeights_12 (sh_unlike w) (by decide) (bw_kl (by decide)) (by decide) ?_
      refine rw_icmp_ge (tgt := 37) dX6_unlikeHeights_13 (by decide) (fun c2 => ?_) (fun c2 => ?_)
      · have h := bw_it c2 h
        refine rw_iload_n dX6_unlikeHeights_37 rfl rfl ?_
        have h := Option.some.inj h
        subst h
        exact rw_iret dX6_unlikeHeights_38 ⟨rfl, rfl⟩
      · have h := bw_if c2 h
        refine rw_aload_n dX6_unlikeHeights_16 rfl rfl ?_
        refine rw_iload_n dX6_unlikeHeights_17 rfl rfl ?_
        obtain ⟨q3, hq3, h⟩ := bw_bd h
        refine rw_callV1 dX6_unlikeHeights_18 ln_RX6_88 mv_X6_hasHeight (shS hS) (klS hS) (ct_X6_hasHeight hS hq3) (Nat.le_of_ble_eq_true rfl) (Nat.le_of_ble_eq_true rfl) (bw_kkz (fun z4 => ?_))
        refine rw_if_eq (tgt := 31) dX6_unlikeHeights_21 (by decide) (fun c5 => ?_) (fun c5 => ?_)
        · have h := bw_it c5 h
          refine rw_inc dX6_unlikeHeights_31 rfl (by decide) ?_
          refine rw_goto (tgt := 4) dX6_unlikeHeights_34 (by decide) ?_
          exact rw_sub (rw_lc rfl (rw_lc rfl (rw_lc rfl (rw_lc rfl rw_lz)))) (ih v2 (v3 + 1) M h)
        · have h := bw_if c5 h
          refine rw_aload_n dX6_unlikeHeights_24 rfl rfl ?_
          refine rw_iload_n dX6_unlikeHeights_25 rfl rfl ?_
          refine rw_iload_n dX6_unlikeHeights_26 rfl rfl ?_
          obtain ⟨g6, h⟩ := bw_gd h
          refine rw_iast dX6_unlikeHeights_27 (sh_unlike w) (bw_kl (by decide)) (bw_in g6) ?_
          obtain ⟨M7, hM7, h⟩ := bw_mlE h
          refine rw_m hM7.symm ?_
          refine rw_inc dX6_unlikeHeights_28 rfl (by decide) ?_
          refine rw_inc dX6_unlikeHeights_31 rfl (by decide) ?_
          refine rw_goto (tgt := 4) dX6_unlikeHeights_34 (by decide) ?_
          exact rw_sub (rw_lc rfl (rw_lc rfl (rw_lc rfl (rw_lc rfl rw_lz)))) (ih (v2 + 1) (v3 + 1) M7 h)
set_option maxRecDepth 20000 in
set_option maxHeartbeats 1000000 in
theorem ct_X6_unlikeHeights {w : WE} {M : Mem} {S : Nat} (hS : bw_iS S) {out : Int32 × Mem} (h : f_X6_unlikeHeights M S = some out) : Ct w 1 yX6_unlikeHeights cX6_unlikeHeights 4 (some .int) [.ref (bw_ad w S), .ref (bw_ad w 21)] M (bw_pi (out.1) out.2) := by
  refine Ct.of (own := RX6) rfl (by decide) (by intro v hv; simp only [List.mem_cons, List.not_mem_nil, or_false] at hv; rcases hv with rfl | rfl <;> first | rfl | exact bw_cat_rf _) (Nat.le_of_ble_eq_true rfl) ?_
  unfold f_X6_unlikeHeights at h
  show RW w 1 0 0 0 0 cX6_unlikeHeights RX6 4 (some .int) (bw_Z w (bw_pi (out.1) out.2)) 0 [(0, .ref (bw_ad w S)), (1, .ref (bw_ad w 21))] [] M
  refine rw_iconst (v := 0) dX6_unlikeHeights_0 (by decide) ?_
  refine rw_istore_n dX6_unlikeHeights_1 rfl (by decide) ?_
  refine rw_iconst (v := 1) dX6_unlikeHeights_2 (by decide) ?_
  refine rw_istore_n dX6_unlikeHeights_3 rfl (by decide) ?_
  exact rw_sub (rw_lc rfl (rw_lc rfl (rw_lc rfl (rw_lc rfl rw_lz)))) (th_X6_unlikeHeights_L4 hS bw_fu (0 : Int32) (1 : Int32) M h)
set_option maxRecDepth 20000 in
set_option maxHeartbeats 1000000 in
theorem th_X6_walks_L11 {w : WE} {S : Nat} {v1 : Int32} {v2 : Int32} (hS : bw_iS S) {out : Int32 × Mem} : ∀ (n : Nat) (v3 : Int32) (v4 : Int32) (M : Mem), f_X6_walks_L11 S v1 v2 n v3 v4 M = some out → RW w 3 0 0 0 0 cX6_walks RX6 5 (some .int) (bw_Z w (bw_pi (out.1) out.2)) 11 [(0, .ref (bw_ad w S)), (1, .int v1), (2, va_rf (bw_lr w v2)), (3, .int v3), (4, .int v4)] [] M := by
  intro n
  induction n with
  | zero => intro v3 v4 M h; cases h
  | succ n ih =>
    intro v3 v4 M h
    rw [f_X6_walks_L11] at h
    refine rw_iload dX6_walks_11 rfl ?_
    refine rw_aload_n dX6_walks_13 rfl rfl ?_
    refine rw_get dX6_walks_14 fl_RX6_54 (shS hS) (klS hS) rfl ?_
    refine rw_icmp_ge (tgt := 74) dX6_walks_17 (by decide) (fun c2 => ?_) (fun c2 => ?_)
    · have h := bw_it c2 h
      refine rw_iload_n dX6_walks_74 rfl rfl ?_
      have h := Option.some.inj h
      subst h
      exact rw_iret dX6_walks_75 ⟨rfl, rfl⟩
    · have h := bw_if c2 h
      refine rw_aload_n dX6_walks_20 rfl rfl ?_
      refine rw_get dX6_walks_21 fl_RX6_9 (shS hS) (klS hS) rfl ?_
      refine rw_iload dX6_walks_24 rfl ?_
      obtain ⟨g3, h⟩ := bw_gd h
      refine rw_iald dX6_walks_26 (shS1 hS) (klS1 hS) (bw_in g3) ?_
      refine rw_iload_n dX6_walks_27 rfl rfl ?_
      refine rw_icmp_lt (tgt := 68) dX6_walks_28 (by decide) (fun c4 => ?_) (fun c4 => ?_)
      · have h := bw_it c4 h
        refine rw_inc dX6_walks_68 rfl (by decide) ?_
        refine rw_goto (tgt := 11) dX6_walks_71 (by decide) ?_
        exact rw_sub (rw_lc rfl (rw_lc rfl (rw_lc rfl (rw_lc rfl (rw_lc rfl rw_lz))))) (ih v3 (v4 + 1) M h)
      · have h := bw_if c4 h
        refine rw_iload_n dX6_walks_31 rfl rfl ?_
        refine rw_aload_nQ dX6_walks_32 rfl rfl ?_
        refine rw_ifnonnullL (tgt := 40) dX6_walks_33 (by decide) (fun c5 => ?_) (fun c5 => ?_)
        · have h := bw_if c5 h
          refine rw_aload_nQ dX6_walks_40 rfl rfl ?_
          refine rw_aload_n dX6_walks_41 rfl rfl ?_
          refine rw_get dX6_walks_42 fl_RX6_9 (shS hS) (klS hS) rfl ?_
          refine rw_iload dX6_walks_45 rfl ?_
          refine rw_iald dX6_walks_47 (shS1 hS) (klS1 hS) (bw_in g3) ?_
          refine rw_aload_n dX6_walks_48 rfl rfl ?_
          refine rw_get dX6_walks_49 fl_RX6_18 (shS hS) (klS hS) rfl ?_
          refine rw_iload dX6_walks_52 rfl ?_
          refine rw_iald dX6_walks_54 (shS3 hS) (klS3 hS) (bw_in g3) ?_
          refine rw_iconst (v := 0) dX6_walks_55 (by decide) ?_
          obtain ⟨q6, hq6, h⟩ := bw_bd h
          obtain ⟨g7, h⟩ := bw_gd h
          refine rw_callL3 dX6_walks_56 ln_RX6_96 mv_X1_gives g7 (ct_X1_gives hq6) (Nat.le_of_ble_eq_true rfl) (Nat.le_of_ble_eq_true rfl) (bw_kki ?_)
          refine rw_iconst (v := 0) dX6_walks_59 (by decide) ?_
          refine rw_sipush (v := 999) dX6_walks_60 (by decide) ?_
          refine rw_callN3 dX6_walks_63 nx_RX6_100 ms_X9_held (ct_X9_held rfl) (Nat.le_of_ble_eq_true rfl) (Nat.le_of_ble_eq_true rfl) (bw_kki ?_)
          refine rw_iadd dX6_walks_66 ?_
          obtain ⟨x8, hx8, h⟩ := bw_mlE h
          refine rw_ti hx8 ?_
          refine rw_istore_n dX6_walks_67 rfl (by decide) ?_
          refine rw_inc dX6_walks_68 rfl (by decide) ?_
          refine rw_goto (tgt := 11) dX6_walks_71 (by decide) ?_
          exact rw_sub (rw_lc rfl (rw_lc rfl (rw_lc rfl (rw_lc rfl (rw_lc rfl rw_lz))))) (ih x8 (v4 + 1) q6.2 h)
        · have h := bw_it c5 h
          refine rw_iconst (v := 5) dX6_walks_36 (by decide) ?_
          refine rw_goto (tgt := 66) dX6_walks_37 (by decide) ?_
          refine rw_iadd dX6_walks_66 ?_
          refine rw_istore_n dX6_walks_67 rfl (by decide) ?_
          refine rw_inc dX6_walks_68 rfl (by decide) ?_
          refine rw_goto (tgt := 11) dX6_walks_71 (by decide) ?_
          exact rw_sub (rw_lc rfl (rw_lc rfl (rw_lc rfl (rw_lc rfl (rw_lc rfl rw_lz))))) (ih (v3 + (5 : Int32)) (v4 + 1) M h)
set_option maxRecDepth 20000 in
set_option maxHeartbeats 1000000 in
theorem ct_X6_walks {w : WE} {M : Mem} {S : Nat} {v1 : Int32} (hS : bw_iS S) {out : Int32 × Mem} (h : f_X6_walks M S v1 = some out) : Ct w 3 yX6_walks cX6_walks 5 (some .int) [.ref (bw_ad w S), .int v1] M (bw_pi (out.1) out.2) := by
  refine Ct.of (own := RX6) rfl (by decide) (by intro v hv; simp only [List.mem_cons, List.not_mem_nil, or_false] at hv; rcases hv with rfl | rfl <;> first | rfl | exact bw_cat_rf _) (Nat.le_of_ble_eq_true rfl) ?_
  unfold f_X6_walks at h
  show RW w 3 0 0 0 0 cX6_walks RX6 5 (some .int) (bw_Z w (bw_pi (out.1) out.2)) 0 [(0, .ref (bw_ad w S)), (1, .int v1)] [] M
  refine rw_aload_n dX6_walks_0 rfl rfl ?_
  refine rw_iconst (v := 1) dX6_walks_1 (by decide) ?_
  obtain ⟨q1, hq1, h⟩ := bw_bd h
  refine rw_callV1 dX6_walks_2 ln_RX6_92 mv_X6_lawOf (shS hS) (klS hS) (ct_X6_lawOf hS hq1) (Nat.le_of_ble_eq_true rfl) (Nat.le_of_ble_eq_true rfl) (bw_kkr ?_)
  refine rw_astore_nQ dX6_walks_5 rfl (by decide) ?_
  refine rw_iconst (v := 0) dX6_walks_6 (by decide) ?_
  refine rw_istore_n dX6_walks_7 rfl (by decide) ?_
  refine rw_iconst (v := 0) dX6_walks_8 (by decide) ?_
  refine rw_istore dX6_walks_9 (by decide) ?_
  exact rw_sub (rw_lc rfl (rw_lc rfl (rw_lc rfl (rw_lc rfl (rw_lc rfl rw_lz))))) (th_X6_walks_L11 hS bw_fu (0 : Int32) (0 : Int32) M h)
set_option maxRecDepth 20000 in
set_option maxHeartbeats 1000000 in
theorem ct_X6_hasBoard {w : WE} {M : Mem} {S : Nat} {v1 : Int32} (hS : bw_iS S) {out : Int32} (h : f_X6_hasBoard M S v1 = out) : Ct w 1 yX6_hasBoard cX6_hasBoard 2 (some .boolean) [.ref (bw_ad w S), .int v1] M (bw_pz (out) M) := by
  refine Ct.of (own := RX6) rfl (by decide) (by intro v hv; simp only [List.mem_cons, List.not_mem_nil, or_false] at hv; rcases hv with rfl | rfl <;> first | rfl | exact bw_cat_rf _) (Nat.le_of_ble_eq_true rfl) ?_
  unfold f_X6_hasBoard at h
  show RW w 1 0 0 0 0 cX6_hasBoard RX6 2 (some .boolean) (bw_Z w (bw_pz (out) M)) 0 [(0, .ref (bw_ad w S)), (1, .int v1)] [] M
  refine rw_iload_n dX6_hasBoard_0 rfl rfl ?_
  refine rw_iconst (v := 0) dX6_hasBoard_1 (by decide) ?_
  refine rw_aload_n dX6_hasBoard_2 rfl rfl ?_
  refine rw_get dX6_hasBoard_3 fl_RX6_57 (shS hS) (klS hS) rfl ?_
  refine rw_iconst (v := 1) dX6_hasBoard_6 (by decide) ?_
  refine rw_isub dX6_hasBoard_7 ?_
  refine rw_callN3 dX6_hasBoard_8 nx_RX6_76 ms_X9_isWithin (ct_X9_isWithin rfl) (Nat.le_of_ble_eq_true rfl) (Nat.le_of_ble_eq_true rfl) (bw_kkz (fun z1 => ?_))
  subst h
  exact rw_zret dX6_hasBoard_11 z1 ⟨rfl, rfl, z1⟩
set_option maxRecDepth 20000 in
set_option maxHeartbeats 1000000 in
theorem ct_X6_addBoard {w : WE} {M : Mem} {S : Nat} {v1 : Int32} {v2 : Int32} {v3 : Int32} {v4 : Int32} (hS : bw_iS S) {out : Int32 × Mem} (h : f_X6_addBoard M S v1 v2 v3 v4 = some out) : Ct w 0 yX6_addBoard cX6_addBoard 6 (some .int) [.ref (bw_ad w S), .int v1, .int v2, .int v3, .int v4] M (bw_pi (out.1) out.2) := by
  refine Ct.of (own := RX6) rfl (by decide) (by intro v hv; simp only [List.mem_cons, List.not_mem_nil, or_false] at hv; rcases hv with rfl | rfl | rfl | rfl | rfl <;> first | rfl | exact bw_cat_rf _) (Nat.le_of_ble_eq_true rfl) ?_
  unfold f_X6_addBoard at h
  show RW w 0 0 0 0 0 cX6_addBoard RX6 6 (some .int) (bw_Z w (bw_pi (out.1) out.2)) 0 [(0, .ref (bw_ad w S)), (1, .int v1), (2, .int v2), (3, .int v3), (4, .int v4)] [] M
  refine rw_aload_n dX6_addBoard_0 rfl rfl ?_
  refine rw_get dX6_addBoard_1 fl_RX6_57 (shS hS) (klS hS) rfl ?_
  refine rw_bipush (v := 12) dX6_addBoard_4 (by decide) ?_
  refine rw_icmp_lt (tgt := 12) dX6_addBoard_6 (by decide) (fun c1 => ?_) (fun c1 => ?_)
  · have h := bw_it c1 h
    refine rw_aload_n dX6_addBoard_12 rfl rfl ?_
    refine rw_get dX6_addBoard_13 fl_RX6_40 (shS hS) (klS hS) rfl ?_
    refine rw_aload_n dX6_addBoard_16 rfl rfl ?_
    refine rw_get dX6_addBoard_17 fl_RX6_57 (shS hS) (klS hS) rfl ?_
    obtain ⟨g2, h⟩ := bw_gd h
    refine rw_aaldR dX6_addBoard_20 (shS5 hS) rfl (klS5 hS) (bw_in g2) ?_
    refine rw_astore dX6_addBoard_21 (by decide) ?_
    refine rw_aload dX6_addBoard_23 rfl ?_
    refine rw_iload_n dX6_addBoard_25 rfl rfl ?_
    refine rw_puti dX6_addBoard_26 fl_RX6_103 fp_0_0 (shB (iB_S hS (bw_lt g2))) (klB (iB_S hS (bw_lt g2))) (by decide) (fun _ => rfl) (fun _ => Nat.le_of_ble_eq_true rfl) ?_
    obtain ⟨M3, hM3, h⟩ := bw_mlE h
    refine rw_m hM3.symm ?_
    refine rw_aload dX6_addBoard_29 rfl ?_
    refine rw_iload_n dX6_addBoard_31 rfl rfl ?_
    refine rw_puti dX6_addBoard_32 fl_RX6_106 fp_0_1 (shB (iB_S hS (bw_lt g2))) (klB (iB_S hS (bw_lt g2))) (by decide) (fun _ => rfl) (fun _ => Nat.le_of_ble_eq_true rfl) ?_
    obtain ⟨M4, hM4, h⟩ := bw_mlE h
    refine rw_m hM4.symm ?_
    refine rw_aload dX6_addBoard_35 rfl ?_
    refine rw_iload_n dX6_addBoard_37 rfl rfl ?_
    refine rw_puti dX6_addBoard_38 fl_RX6_109 fp_0_2 (shB (iB_S hS (bw_lt g2))) (klB (iB_S hS (bw_lt g2))) (by decide) (fun _ => rfl) (fun _ => Nat.le_of_ble_eq_true rfl) ?_
    obtain ⟨M5, hM5, h⟩ := bw_mlE h
    refine rw_m hM5.symm ?_
    refine rw_aload dX6_addBoard_41 rfl ?_
    refine rw_iload dX6_addBoard_43 rfl ?_
    refine rw_puti dX6_addBoard_45 fl_RX6_112 fp_0_3 (shB (iB_S hS (bw_lt g2))) (klB (iB_S hS (bw_lt g2))) (by decide) (fun _ => rfl) (fun _ => Nat.le_of_ble_eq_true rfl) ?_
    obtain ⟨M6, hM6, h⟩ := bw_mlE h
    refine rw_m hM6.symm ?_
    refine rw_aload_n dX6_addBoard_48 rfl rfl ?_
    refine rw_dup dX6_addBoard_49 rfl ?_
    refine rw_get dX6_addBoard_50 fl_RX6_57 (shS hS) (klS hS) rfl ?_
    refine rw_iconst (v := 1) dX6_addBoard_53 (by decide) ?_
    refine rw_iadd dX6_addBoard_54 ?_
    refine rw_puti dX6_addBoard_55 fl_RX6_57 fp_6_9 (shS hS) (klS hS) (by decide) (fun _ => rfl) (fun _ => Nat.le_of_ble_eq_true rfl) ?_
    obtain ⟨M7, hM7, h⟩ := bw_mlE h
    refine rw_m hM7.symm ?_
    refine rw_aload_n dX6_addBoard_58 rfl rfl ?_
    refine rw_get dX6_addBoard_59 fl_RX6_57 (shS hS) (klS hS) rfl ?_
    refine rw_iconst (v := 1) dX6_addBoard_62 (by decide) ?_
    refine rw_isub dX6_addBoard_63 ?_
    have h := Option.some.inj h
    subst h
    exact rw_iret dX6_addBoard_64 ⟨rfl, rfl⟩
  · have h := bw_if c1 h
    refine rw_ldc dX6_addBoard_9 cn_RX6_80 ?_
    have h := Option.some.inj h
    subst h
    exact rw_iret dX6_addBoard_11 ⟨rfl, rfl⟩
set_option maxRecDepth 20000 in
set_option maxHeartbeats 1000000 in
theorem th_X6_dropBoard_L6 {w : WE} {S : Nat} (hS : bw_iS S) {out : Int32 × Mem} : ∀ (n : Nat) (v2 : Int32) (M : Mem), f_X6_dropBoard_L6 S n v2 M = some out → RW w 2 0 0 0 0 cX6_dropBoard RX6 3 (some .int) (bw_Z w (bw_pi (out.1) out.2)) 6 [(0, .ref (bw_ad w S)), (2, .int v2)] [] M := by
  intro n
  induction n with
  | zero => intro v2 M h; cases h
  | succ n ih =>
    intro v2 M h
    rw [f_X6_dropBoard_L6] at h
    refine rw_iload_n dX6_dropBoard_6 rfl rfl ?_
    refine rw_iconst (v := 1) dX6_dropBoard_7 (by decide) ?_
    refine rw_iadd dX6_dropBoard_8 ?_
    refine rw_aload_n dX6_dropBoard_9 rfl rfl ?_
    refine rw_get dX6_dropBoard_10 fl_RX6_57 (shS hS) (klS hS) rfl ?_
    refine rw_icmp_ge (tgt := 39) dX6_dropBoard_13 (by decide) (fun c1 => ?_) (fun c1 => ?_)
    · have h := bw_it c1 h
      refine rw_aload_n dX6_dropBoard_39 rfl rfl ?_
      refine rw_dup dX6_dropBoard_40 rfl ?_
      refine rw_get dX6_dropBoard_41 fl_RX6_57 (shS hS) (klS hS) rfl ?_
      refine rw_iconst (v := 1) dX6_dropBoard_44 (by decide) ?_
      refine rw_isub dX6_dropBoard_45 ?_
      refine rw_puti dX6_dropBoard_46 fl_RX6_57 fp_6_9 (shS hS) (klS hS) (by decide) (fun _ => rfl) (fun _ => Nat.le_of_ble_eq_true rfl) ?_
      obtain ⟨M2, hM2, h⟩ := bw_mlE h
      refine rw_m hM2.symm ?_
      refine rw_aload_n dX6_dropBoard_49 rfl rfl ?_
      refine rw_get dX6_dropBoard_50 fl_RX6_57 (shS hS) (klS hS) rfl ?_
      have h := Option.some.inj h
      subst h
      exact rw_iret dX6_dropBoard_53 ⟨rfl, rfl⟩
    · have h := bw_if c1 h
      refine rw_aload_n dX6_dropBoard_16 rfl rfl ?_
      refine rw_get dX6_dropBoard_17 fl_RX6_40 (shS hS) (klS hS) rfl ?_
      refine rw_iload_n dX6_dropBoard_20 rfl rfl ?_
      obtain ⟨g3, h⟩ := bw_gd h
      refine rw_aaldR dX6_dropBoard_21 (shS5 hS) rfl (klS5 hS) (bw_in g3) ?_
      refine rw_aload_n dX6_dropBoard_22 rfl rfl ?_
      refine rw_get dX6_dropBoard_23 fl_RX6_40 (shS hS) (klS hS) rfl ?_
      refine rw_iload_n dX6_dropBoard_26 rfl rfl ?_
      refine rw_iconst (v := 1) dX6_dropBoard_27 (by decide) ?_
      refine rw_iadd dX6_dropBoard_28 ?_
      obtain ⟨g4, h⟩ := bw_gd h
      refine rw_aaldR dX6_dropBoard_29 (shS5 hS) rfl (klS5 hS) (bw_in g4) ?_
      obtain ⟨q5, hq5, h⟩ := bw_bd h
      refine rw_callV1 dX6_dropBoard_30 ln_RX6_60 mv_X0_become (shB (iB_S hS (bw_lt g3))) (klB (iB_S hS (bw_lt g3))) (ct_X0_become (iB_S hS (bw_lt g3)) (iB_S hS (bw_lt g4)) hq5) (Nat.le_of_ble_eq_true rfl) (Nat.le_of_ble_eq_true rfl) (bw_kkv ?_)
      refine rw_inc dX6_dropBoard_33 rfl (by decide) ?_
      refine rw_goto (tgt := 6) dX6_dropBoard_36 (by decide) ?_
      exact rw_sub (rw_lc rfl (rw_lc rfl rw_lz)) (ih (v2 + 1) q5 h)
set_option maxRecDepth 20000 in
set_option maxHeartbeats 1000000 in
theorem ct_X6_dropBoard {w : WE} {M : Mem} {S : Nat} {v1 : Int32} (hS : bw_iS S) {out : Int32 × Mem} (h : f_X6_dropBoard M S v1 = some out) : Ct w 2 yX6_dropBoard cX6_dropBoard 3 (some .int) [.ref (bw_ad w S), .int v1] M (bw_pi (out.1) out.2) := by
  refine Ct.of (own := RX6) rfl (by decide) (by intro v hv; simp only [List.mem_cons, List.not_mem_nil, or_false] at hv; rcases hv with rfl | rfl <;> first | rfl | exact bw_cat_rf _) (Nat.le_of_ble_eq_true rfl) ?_
  unfold f_X6_dropBoard at h
  show RW w 2 0 0 0 0 cX6_dropBoard RX6 3 (some .int) (bw_Z w (bw_pi (out.1) out.2)) 0 [(0, .ref (bw_ad w S)), (1, .int v1)] [] M
  refine rw_iload_n dX6_dropBoard_0 rfl rfl ?_
  refine rw_iconst (v := 0) dX6_dropBoard_1 (by decide) ?_
  refine rw_mmax dX6_dropBoard_2 ln_RX6_82 mm_max_s mm_i mm_max_c (Nat.le_of_ble_eq_true rfl) (Nat.le_of_ble_eq_true rfl) ?_
  refine rw_istore_n dX6_dropBoard_5 rfl (by decide) ?_
  exact rw_sub (rw_lc rfl (rw_lc rfl rw_lz)) (th_X6_dropBoard_L6 hS bw_fu (bw_max v1 (0 : Int32)) M h)
set_option maxRecDepth 20000 in
set_option maxHeartbeats 1000000 in
theorem th_X6_firstBoardNotGood_L2 {w : WE} {M : Mem} {S : Nat} (hS : bw_iS S) {out : Int32} : ∀ (n : Nat) (v1 : Int32), f_X6_firstBoardNotGood_L2 M S n v1 = some out → RW w 5 0 0 0 0 cX6_firstBoardNotGood RX6 2 (some .int) (bw_Z w (bw_pi (out) M)) 2 [(0, .ref (bw_ad w S)), (1, .int v1)] [] M := by
  intro n
  induction n with
  | zero => intro v1 h; cases h
  | succ n ih =>
    intro v1 h
    rw [f_X6_firstBoardNotGood_L2] at h
    refine rw_iload_n dX6_firstBoardNotGood_2 rfl rfl ?_
    refine rw_aload_n dX6_firstBoardNotGood_3 rfl rfl ?_
    refine rw_get dX6_firstBoardNotGood_4 fl_RX6_57 (shS hS) (klS hS) rfl ?_
    refine rw_icmp_ge (tgt := 31) dX6_firstBoardNotGood_7 (by decide) (fun c1 => ?_) (fun c1 => ?_)
    · have h := bw_it c1 h
      refine rw_ldc dX6_firstBoardNotGood_31 cn_RX6_119 ?_
      have h := Option.some.inj h
      subst h
      exact rw_iret dX6_firstBoardNotGood_33 ⟨rfl, rfl⟩
    · have h := bw_if c1 h
      refine rw_aload_n dX6_firstBoardNotGood_10 rfl rfl ?_
      refine rw_get dX6_firstBoardNotGood_11 fl_RX6_40 (shS hS) (klS hS) rfl ?_
      refine rw_iload_n dX6_firstBoardNotGood_14 rfl rfl ?_
      obtain ⟨g2, h⟩ := bw_gd h
      refine rw_aaldR dX6_firstBoardNotGood_15 (shS5 hS) rfl (klS5 hS) (bw_in g2) ?_
      refine rw_aload_n dX6_firstBoardNotGood_16 rfl rfl ?_
      obtain ⟨q3, hq3, h⟩ := bw_bd h
      refine rw_callV1 dX6_firstBoardNotGood_17 ln_RX6_115 mv_X0_isGood (shB (iB_S hS (bw_lt g2))) (klB (iB_S hS (bw_lt g2))) (ct_X0_isGood (iB_S hS (bw_lt g2)) hS hq3) (Nat.le_of_ble_eq_true rfl) (Nat.le_of_ble_eq_true rfl) (bw_kkz (fun z4 => ?_))
      refine rw_if_ne (tgt := 25) dX6_firstBoardNotGood_20 (by decide) (fun c5 => ?_) (fun c5 => ?_)
      · have h := bw_if c5 h
        refine rw_inc dX6_firstBoardNotGood_25 rfl (by decide) ?_
        refine rw_goto (tgt := 2) dX6_firstBoardNotGood_28 (by decide) ?_
        exact rw_sub (rw_lc rfl (rw_lc rfl rw_lz)) (ih (v1 + 1) h)
      · have h := bw_it c5 h
        refine rw_iload_n dX6_firstBoardNotGood_23 rfl rfl ?_
        have h := Option.some.inj h
        subst h
        exact rw_iret dX6_firstBoardNotGood_24 ⟨rfl, rfl⟩
set_option maxRecDepth 20000 in
set_option maxHeartbeats 1000000 in
theorem ct_X6_firstBoardNotGood {w : WE} {M : Mem} {S : Nat} (hS : bw_iS S) {out : Int32} (h : f_X6_firstBoardNotGood M S = some out) : Ct w 5 yX6_firstBoardNotGood cX6_firstBoardNotGood 2 (some .int) [.ref (bw_ad w S)] M (bw_pi (out) M) := by
  refine Ct.of (own := RX6) rfl (by decide) (by intro v hv; rw [List.mem_singleton.mp hv]; first | rfl | exact bw_cat_rf _) (Nat.le_of_ble_eq_true rfl) ?_
  unfold f_X6_firstBoardNotGood at h
  show RW w 5 0 0 0 0 cX6_firstBoardNotGood RX6 2 (some .int) (bw_Z w (bw_pi (out) M)) 0 [(0, .ref (bw_ad w S))] [] M
  refine rw_iconst (v := 0) dX6_firstBoardNotGood_0 (by decide) ?_
  refine rw_istore_n dX6_firstBoardNotGood_1 rfl (by decide) ?_
  exact rw_sub (rw_lc rfl (rw_lc rfl rw_lz)) (th_X6_firstBoardNotGood_L2 hS bw_fu (0 : Int32) h)
set_option maxRecDepth 20000 in
set_option maxHeartbeats 1000000 in
theorem th_X6_boardsWith_L4 {w : WE} {M : Mem} {S : Nat} {v1 : Int32} (hS : bw_iS S) {out : Int32} : ∀ (n : Nat) (v2 : Int32) (v3 : Int32), f_X6_boardsWith_L4 M S v1 n v2 v3 = some out → RW w 1 0 0 0 0 cX6_boardsWith RX6 4 (some .int) (bw_Z w (bw_pi (out) M)) 4 [(0, .ref (bw_ad w S)), (1, .int v1), (2, .int v2), (3, .int v3)] [] M := by
  intro n
  induction n with
  | zero => intro v2 v3 h; cases h
  | succ n ih =>
    intro v2 v3 h
    rw [f_X6_boardsWith_L4] at h
    refine rw_iload_n dX6_boardsWith_4 rfl rfl ?_
    refine rw_aload_n dX6_boardsWith_5 rfl rfl ?_
    refine rw_get dX6_boardsWith_6 fl_RX6_57 (shS hS) (klS hS) rfl ?_
    refine rw_icmp_ge (tgt := 51) dX6_boardsWith_9 (by decide) (fun c1 => ?_) (fun c1 => ?_)
    · have h := bw_it c1 h
      refine rw_iload_n dX6_boardsWith_51 rfl rfl ?_
      have h := Option.some.inj h
      subst h
      exact rw_iret dX6_boardsWith_52 ⟨rfl, rfl⟩
    · have h := bw_if c1 h
      refine rw_iload_n dX6_boardsWith_12 rfl rfl ?_
      refine rw_iload_n dX6_boardsWith_13 rfl rfl ?_
      refine rw_aload_n dX6_boardsWith_14 rfl rfl ?_
      refine rw_get dX6_boardsWith_15 fl_RX6_40 (shS hS) (klS hS) rfl ?_
      refine rw_iload_n dX6_boardsWith_18 rfl rfl ?_
      obtain ⟨g2, h⟩ := bw_gd h
      refine rw_aaldR dX6_boardsWith_19 (shS5 hS) rfl (klS5 hS) (bw_in g2) ?_
      refine rw_get dX6_boardsWith_20 fl_RX6_106 (shB (iB_S hS (bw_lt g2))) (klB (iB_S hS (bw_lt g2))) rfl ?_
      refine rw_aload_n dX6_boardsWith_23 rfl rfl ?_
      refine rw_get dX6_boardsWith_24 fl_RX6_40 (shS hS) (klS hS) rfl ?_
      refine rw_iload_n dX6_boardsWith_27 rfl rfl ?_
      refine rw_aaldR dX6_boardsWith_28 (shS5 hS) rfl (klS5 hS) (bw_in g2) ?_
      refine rw_get dX6_boardsWith_29 fl_RX6_109 (shB (iB_S hS (bw_lt g2))) (klB (iB_S hS (bw_lt g2))) rfl ?_
      refine rw_callN3 dX6_boardsWith_32 nx_RX6_76 ms_X9_isWithin (ct_X9_isWithin rfl) (Nat.le_of_ble_eq_true rfl) (Nat.le_of_ble_eq_true rfl) (bw_kkz (fun z3 => ?_))
      have key : RW w 1 0 0 0 0 cX6_boardsWith RX6 4 (some .int) (bw_Z w (bw_pi (out) M)) 43 [(0, .ref (bw_ad w S)), (1, .int v1), (3, .int v3)] [.int (if (f_X9_isWithin v1 (M (S + 8 + v3.toNatClampNeg) 1) (M (S + 8 + v3.toNatClampNeg) 2)) = 0 then (0 : Int32) else (1 : Int32)), .int v2] M := by
        refine rw_iadd dX6_boardsWith_43 ?_
        obtain ⟨x5, hx5, h⟩ := bw_mlE h
        refine rw_ti hx5 ?_
        refine rw_istore_n dX6_boardsWith_44 rfl (by decide) ?_
        refine rw_inc dX6_boardsWith_45 rfl (by decide) ?_
        refine rw_goto (tgt := 4) dX6_boardsWith_48 (by decide) ?_
        exact rw_sub (rw_lc rfl (rw_lc rfl (rw_lc rfl (rw_lc rfl rw_lz)))) (ih x5 (v3 + 1) h)
      refine rw_if_eq (tgt := 42) dX6_boardsWith_35 (by decide) (fun c4 => ?_) (fun c4 => ?_)
      · refine rw_iconst (v := 0) dX6_boardsWith_42 (by decide) ?_
        simp only [if_pos c4] at key
        exact rw_sub (rw_lc rfl (rw_lc rfl (rw_lc rfl rw_lz))) key
      · refine rw_iconst (v := 1) dX6_boardsWith_38 (by decide) ?_
        refine rw_goto (tgt := 43) dX6_boardsWith_39 (by decide) ?_
        simp only [if_neg c4] at key
        exact rw_sub (rw_lc rfl (rw_lc rfl (rw_lc rfl rw_lz))) key
set_option maxRecDepth 20000 in
set_option maxHeartbeats 1000000 in
theorem ct_X6_boardsWith {w : WE} {M : Mem} {S : Nat} {v1 : Int32} (hS : bw_iS S) {out : Int32} (h : f_X6_boardsWith M S v1 = some out) : Ct w 1 yX6_boardsWith cX6_boardsWith 4 (some .int) [.ref (bw_ad w S), .int v1] M (bw_pi (out) M) := by
  refine Ct.of (own := RX6) rfl (by decide) (by intro v hv; simp only [List.mem_cons, List.not_mem_nil, or_false] at hv; rcases hv with rfl | rfl <;> first | rfl | exact bw_cat_rf _) (Nat.le_of_ble_eq_true rfl) ?_
  unfold f_X6_boardsWith at h
  show RW w 1 0 0 0 0 cX6_boardsWith RX6 4 (some .int) (bw_Z w (bw_pi (out) M)) 0 [(0, .ref (bw_ad w S)), (1, .int v1)] [] M
  refine rw_iconst (v := 0) dX6_boardsWith_0 (by decide) ?_
  refine rw_istore_n dX6_boardsWith_1 rfl (by decide) ?_
  refine rw_iconst (v := 0) dX6_boardsWith_2 (by decide) ?_
  refine rw_istore_n dX6_boardsWith_3 rfl (by decide) ?_
  exact rw_sub (rw_lc rfl (rw_lc rfl (rw_lc rfl (rw_lc rfl rw_lz)))) (th_X6_boardsWith_L4 hS bw_fu (0 : Int32) (0 : Int32) h)
set_option maxRecDepth 20000 in
set_option maxHeartbeats 1000000 in
theorem th_X6_firstBookAmiss_L2 {w : WE} {M : Mem} {S : Nat} (hS : bw_iS S) {out : Int32} : ∀ (n : Nat) (v1 : Int32), f_X6_firstBookAmiss_L2 M S n v1 = some out → RW w 2 0 0 0 0 cX6_firstBookAmiss RX6 2 (some .int) (bw_Z w (bw_pi (out) M)) 2 [(0, .ref (bw_ad w S)), (1, .int v1)] [] M := by
  intro n
  induction n with
  | zero => intro v1 h; cases h
  | succ n ih =>
    intro v1 h
    rw [f_X6_firstBookAmiss_L2] at h
    refine rw_iload_n dX6_firstBookAmiss_2 rfl rfl ?_
    refine rw_aload_n dX6_firstBookAmiss_3 rfl rfl ?_
    refine rw_get dX6_firstBookAmiss_4 fl_RX6_54 (shS hS) (klS hS) rfl ?_
    refine rw_icmp_ge (tgt := 27) dX6_firstBookAmiss_7 (by decide) (fun c1 => ?_) (fun c1 => ?_)
    · have h := bw_it c1 h
      refine rw_ldc dX6_firstBookAmiss_27 cn_RX6_119 ?_
      have h := Option.some.inj h
      subst h
      exact rw_iret dX6_firstBookAmiss_29 ⟨rfl, rfl⟩
    · have h := bw_if c1 h
      refine rw_aload_n dX6_firstBookAmiss_10 rfl rfl ?_
      refine rw_iload_n dX6_firstBookAmiss_11 rfl rfl ?_
      obtain ⟨q2, hq2, h⟩ := bw_bd h
      refine rw_callV1 dX6_firstBookAmiss_12 ln_RX6_120 mv_X6_boardsWith (shS hS) (klS hS) (ct_X6_boardsWith hS hq2) (Nat.le_of_ble_eq_true rfl) (Nat.le_of_ble_eq_true rfl) (bw_kki ?_)
      refine rw_iconst (v := 1) dX6_firstBookAmiss_15 (by decide) ?_
      refine rw_icmp_eq (tgt := 21) dX6_firstBookAmiss_16 (by decide) (fun c3 => ?_) (fun c3 => ?_)
      · have h := bw_it c3 h
        refine rw_inc dX6_firstBookAmiss_21 rfl (by decide) ?_
        refine rw_goto (tgt := 2) dX6_firstBookAmiss_24 (by decide) ?_
        exact rw_sub (rw_lc rfl (rw_lc rfl rw_lz)) (ih (v1 + 1) h)
      · have h := bw_if c3 h
        refine rw_iload_n dX6_firstBookAmiss_19 rfl rfl ?_
        have h := Option.some.inj h
        subst h
        exact rw_iret dX6_firstBookAmiss_20 ⟨rfl, rfl⟩
set_option maxRecDepth 20000 in
set_option maxHeartbeats 1000000 in
theorem ct_X6_firstBookAmiss {w : WE} {M : Mem} {S : Nat} (hS : bw_iS S) {out : Int32} (h : f_X6_firstBookAmiss M S = some out) : Ct w 2 yX6_firstBookAmiss cX6_firstBookAmiss 2 (some .int) [.ref (bw_ad w S)] M (bw_pi (out) M) := by
  refine Ct.of (own := RX6) rfl (by decide) (by intro v hv; rw [List.mem_singleton.mp hv]; first | rfl | exact bw_cat_rf _) (Nat.le_of_ble_eq_true rfl) ?_
  unfold f_X6_firstBookAmiss at h
  show RW w 2 0 0 0 0 cX6_firstBookAmiss RX6 2 (some .int) (bw_Z w (bw_pi (out) M)) 0 [(0, .ref (bw_ad w S))] [] M
  refine rw_iconst (v := 0) dX6_firstBookAmiss_0 (by decide) ?_
  refine rw_istore_n dX6_firstBookAmiss_1 rfl (by decide) ?_
  exact rw_sub (rw_lc rfl (rw_lc rfl rw_lz)) (th_X6_firstBookAmiss_L2 hS bw_fu (0 : Int32) h)
set_option maxRecDepth 20000 in
set_option maxHeartbeats 1000000 in
theorem th_X6_heightOfBoards_L4 {w : WE} {M : Mem} {S : Nat} (hS : bw_iS S) {out : Int32} : ∀ (n : Nat) (v1 : Int32) (v2 : Int32), f_X6_heightOfBoards_L4 M S n v1 v2 = some out → RW w 4 0 0 0 0 cX6_heightOfBoards RX6 3 (some .int) (bw_Z w (bw_pi (out) M)) 4 [(0, .ref (bw_ad w S)), (1, .int v1), (2, .int v2)] [] M := by
  intro n
  induction n with
  | zero => intro v1 v2 h; cases h
  | succ n ih =>
    intro v1 v2 h
    rw [f_X6_heightOfBoards_L4] at h
    refine rw_iload_n dX6_heightOfBoards_4 rfl rfl ?_
    refine rw_aload_n dX6_heightOfBoards_5 rfl rfl ?_
    refine rw_get dX6_heightOfBoards_6 fl_RX6_57 (shS hS) (klS hS) rfl ?_
    refine rw_icmp_ge (tgt := 36) dX6_heightOfBoards_9 (by decide) (fun c1 => ?_) (fun c1 => ?_)
    · have h := bw_it c1 h
      refine rw_iload_n dX6_heightOfBoards_36 rfl rfl ?_
      have h := Option.some.inj h
      subst h
      exact rw_iret dX6_heightOfBoards_37 ⟨rfl, rfl⟩
    · have h := bw_if c1 h
      refine rw_iload_n dX6_heightOfBoards_12 rfl rfl ?_
      refine rw_aload_n dX6_heightOfBoards_13 rfl rfl ?_
      refine rw_get dX6_heightOfBoards_14 fl_RX6_40 (shS hS) (klS hS) rfl ?_
      refine rw_iload_n dX6_heightOfBoards_17 rfl rfl ?_
      obtain ⟨g2, h⟩ := bw_gd h
      refine rw_aaldR dX6_heightOfBoards_18 (shS5 hS) rfl (klS5 hS) (bw_in g2) ?_
      refine rw_aload_n dX6_heightOfBoards_19 rfl rfl ?_
      obtain ⟨q3, hq3, h⟩ := bw_bd h
      refine rw_callV1 dX6_heightOfBoards_20 ln_RX6_124 mv_X0_wants (shB (iB_S hS (bw_lt g2))) (klB (iB_S hS (bw_lt g2))) (ct_X0_wants (iB_S hS (bw_lt g2)) hS hq3) (Nat.le_of_ble_eq_true rfl) (Nat.le_of_ble_eq_true rfl) (bw_kki ?_)
      refine rw_aload_n dX6_heightOfBoards_23 rfl rfl ?_
      refine rw_get dX6_heightOfBoards_24 fl_RX6_29 (shS hS) (klS hS) rfl ?_
      refine rw_iadd dX6_heightOfBoards_27 ?_
      refine rw_iadd dX6_heightOfBoards_28 ?_
      refine rw_istore_n dX6_heightOfBoards_29 rfl (by decide) ?_
      refine rw_inc dX6_heightOfBoards_30 rfl (by decide) ?_
      refine rw_goto (tgt := 4) dX6_heightOfBoards_33 (by decide) ?_
      exact rw_sub (rw_lc rfl (rw_lc rfl (rw_lc rfl rw_lz))) (ih (v1 + (q3 + (M S 6))) (v2 + 1) h)
set_option maxRecDepth 20000 in
set_option maxHeartbeats 1000000 in
theorem ct_X6_heightOfBoards {w : WE} {M : Mem} {S : Nat} (hS : bw_iS S) {out : Int32} (h : f_X6_heightOfBoards M S = some out) : Ct w 4 yX6_heightOfBoards cX6_heightOfBoards 3 (some .int) [.ref (bw_ad w S)] M (bw_pi (out) M) := by
  refine Ct.of (own := RX6) rfl (by decide) (by intro v hv; rw [List.mem_singleton.mp hv]; first | rfl | exact bw_cat_rf _) (Nat.le_of_ble_eq_true rfl) ?_
  unfold f_X6_heightOfBoards at h
  show RW w 4 0 0 0 0 cX6_heightOfBoards RX6 3 (some .int) (bw_Z w (bw_pi (out) M)) 0 [(0, .ref (bw_ad w S))] [] M
  refine rw_iconst (v := 0) dX6_heightOfBoards_0 (by decide) ?_
  refine rw_istore_n dX6_heightOfBoards_1 rfl (by decide) ?_
  refine rw_iconst (v := 0) dX6_heightOfBoards_2 (by decide) ?_
  refine rw_istore_n dX6_heightOfBoards_3 rfl (by decide) ?_
  exact rw_sub (rw_lc rfl (rw_lc rfl (rw_lc rfl rw_lz))) (th_X6_heightOfBoards_L4 hS bw_fu (0 : Int32) (0 : Int32) h)
set_option maxRecDepth 20000 in
set_option maxHeartbeats 1000000 in
theorem th_X6_isAllowed_L2 {w : WE} {M : Mem} {S : Nat} {v1 : Int32} (hS : bw_iS S) {out : Int32} : ∀ (n : Nat) (v2 : Int32), f_X6_isAllowed_L2 M S v1 n v2 = some out → RW w 0 0 0 0 0 cX6_isAllowed RX6 3 (some .boolean) (bw_Z w (bw_pz (out) M)) 2 [(0, .ref (bw_ad w S)), (1, .int v1), (2, .int v2)] [] M := by
  intro n
  induction n with
  | zero => intro v2 h; cases h
  | succ n ih =>
    intro v2 h
    rw [f_X6_isAllowed_L2] at h
    refine rw_iload_n dX6_isAllowed_2 rfl rfl ?_
    refine rw_aload_n dX6_isAllowed_3 rfl rfl ?_
    refine rw_get dX6_isAllowed_4 fl_RX6_64 (shS hS) (klS hS) rfl ?_
    refine rw_icmp_ge (tgt := 28) dX6_isAllowed_7 (by decide) (fun c1 => ?_) (fun c1 => ?_)
    · have h := bw_it c1 h
      refine rw_iconst (v := 0) dX6_isAllowed_28 (by decide) ?_
      have h := Option.some.inj h
      subst h
      exact rw_zret dX6_isAllowed_29 bw_n0 ⟨rfl, rfl, bw_n0⟩
    · have h := bw_if c1 h
      refine rw_aload_n dX6_isAllowed_10 rfl rfl ?_
      refine rw_get dX6_isAllowed_11 fl_RX6_44 (shS hS) (klS hS) rfl ?_
      refine rw_iload_n dX6_isAllowed_14 rfl rfl ?_
      obtain ⟨g2, h⟩ := bw_gd h
      refine rw_iald dX6_isAllowed_15 (shS6 hS) (klS6 hS) (bw_in g2) ?_
      refine rw_iload_n dX6_isAllowed_16 rfl rfl ?_
      refine rw_icmp_ne (tgt := 22) dX6_isAllowed_17 (by decide) (fun c3 => ?_) (fun c3 => ?_)
      · have h := bw_if c3 h
        refine rw_inc dX6_isAllowed_22 rfl (by decide) ?_
        refine rw_goto (tgt := 2) dX6_isAllowed_25 (by decide) ?_
        exact rw_sub (rw_lc rfl (rw_lc rfl (rw_lc rfl rw_lz))) (ih (v2 + 1) h)
      · have h := bw_it c3 h
        refine rw_iconst (v := 1) dX6_isAllowed_20 (by decide) ?_
        have h := Option.some.inj h
        subst h
        exact rw_zret dX6_isAllowed_21 bw_n1 ⟨rfl, rfl, bw_n1⟩
set_option maxRecDepth 20000 in
set_option maxHeartbeats 1000000 in
theorem ct_X6_isAllowed {w : WE} {M : Mem} {S : Nat} {v1 : Int32} (hS : bw_iS S) {out : Int32} (h : f_X6_isAllowed M S v1 = some out) : Ct w 0 yX6_isAllowed cX6_isAllowed 3 (some .boolean) [.ref (bw_ad w S), .int v1] M (bw_pz (out) M) := by
  refine Ct.of (own := RX6) rfl (by decide) (by intro v hv; simp only [List.mem_cons, List.not_mem_nil, or_false] at hv; rcases hv with rfl | rfl <;> first | rfl | exact bw_cat_rf _) (Nat.le_of_ble_eq_true rfl) ?_
  unfold f_X6_isAllowed at h
  show RW w 0 0 0 0 0 cX6_isAllowed RX6 3 (some .boolean) (bw_Z w (bw_pz (out) M)) 0 [(0, .ref (bw_ad w S)), (1, .int v1)] [] M
  refine rw_iconst (v := 0) dX6_isAllowed_0 (by decide) ?_
  refine rw_istore_n dX6_isAllowed_1 rfl (by decide) ?_
  exact rw_sub (rw_lc rfl (rw_lc rfl (rw_lc rfl rw_lz))) (th_X6_isAllowed_L2 hS bw_fu (0 : Int32) h)
set_option maxRecDepth 20000 in
set_option maxHeartbeats 1000000 in
theorem ct_X6_addAllowed {w : WE} {M : Mem} {S : Nat} {v1 : Int32} (hS : bw_iS S) {out : Int32 × Mem} (h : f_X6_addAllowed M S v1 = some out) : Ct w 0 yX6_addAllowed cX6_addAllowed 2 (some .int) [.ref (bw_ad w S), .int v1] M (bw_pi (out.1) out.2) := by
  refine Ct.of (own := RX6) rfl (by decide) (by intro v hv; simp only [List.mem_cons, List.not_mem_nil, or_false] at hv; rcases hv with rfl | rfl <;> first | rfl | exact bw_cat_rf _) (Nat.le_of_ble_eq_true rfl) ?_
  unfold f_X6_addAllowed at h
  show RW w 0 0 0 0 0 cX6_addAllowed RX6 2 (some .int) (bw_Z w (bw_pi (out.1) out.2)) 0 [(0, .ref (bw_ad w S)), (1, .int v1)] [] M
  refine rw_aload_n dX6_addAllowed_0 rfl rfl ?_
  refine rw_get dX6_addAllowed_1 fl_RX6_64 (shS hS) (klS hS) rfl ?_
  refine rw_bipush (v := 6) dX6_addAllowed_4 (by decide) ?_
  refine rw_icmp_lt (tgt := 12) dX6_addAllowed_6 (by decide) (fun c1 => ?_) (fun c1 => ?_)
  · have h := bw_it c1 h
    refine rw_aload_n dX6_addAllowed_12 rfl rfl ?_
    refine rw_get dX6_addAllowed_13 fl_RX6_44 (shS hS) (klS hS) rfl ?_
    refine rw_aload_n dX6_addAllowed_16 rfl rfl ?_
    refine rw_get dX6_addAllowed_17 fl_RX6_64 (shS hS) (klS hS) rfl ?_
    refine rw_iload_n dX6_addAllowed_20 rfl rfl ?_
    obtain ⟨g2, h⟩ := bw_gd h
    refine rw_iast dX6_addAllowed_21 (shS6 hS) (klS6 hS) (bw_in g2) ?_
    obtain ⟨M3, hM3, h⟩ := bw_mlE h
    refine rw_m hM3.symm ?_
    refine rw_aload_n dX6_addAllowed_22 rfl rfl ?_
    refine rw_dup dX6_addAllowed_23 rfl ?_
    refine rw_get dX6_addAllowed_24 fl_RX6_64 (shS hS) (klS hS) rfl ?_
    refine rw_iconst (v := 1) dX6_addAllowed_27 (by decide) ?_
    refine rw_iadd dX6_addAllowed_28 ?_
    refine rw_puti dX6_addAllowed_29 fl_RX6_64 fp_6_11 (shS hS) (klS hS) (by decide) (fun _ => rfl) (fun _ => Nat.le_of_ble_eq_true rfl) ?_
    obtain ⟨M4, hM4, h⟩ := bw_mlE h
    refine rw_m hM4.symm ?_
    refine rw_aload_n dX6_addAllowed_32 rfl rfl ?_
    refine rw_get dX6_addAllowed_33 fl_RX6_64 (shS hS) (klS hS) rfl ?_
    have h := Option.some.inj h
    subst h
    exact rw_iret dX6_addAllowed_36 ⟨rfl, rfl⟩
  · have h := bw_if c1 h
    refine rw_ldc dX6_addAllowed_9 cn_RX6_80 ?_
    have h := Option.some.inj h
    subst h
    exact rw_iret dX6_addAllowed_11 ⟨rfl, rfl⟩
set_option maxRecDepth 20000 in
set_option maxHeartbeats 1000000 in
theorem ct_X6_addText {w : WE} {M : Mem} {S : Nat} {c1 : Int32} (hS : bw_iS S) {out : Int32 × Mem} (h : f_X6_addText M S c1 = some out) : Ct w 0 yX6_addText cX6_addText 2 (some .int) [.ref (bw_ad w S), va_rf (bw_lr w c1)] M (bw_pi (out.1) out.2) := by
  refine Ct.of (own := RX6) rfl (by decide) (by intro v hv; simp only [List.mem_cons, List.not_mem_nil, or_false] at hv; rcases hv with rfl | rfl <;> first | rfl | exact bw_cat_rf _) (Nat.le_of_ble_eq_true rfl) ?_
  unfold f_X6_addText at h
  show RW w 0 0 0 0 0 cX6_addText RX6 2 (some .int) (bw_Z w (bw_pi (out.1) out.2)) 0 [(0, .ref (bw_ad w S)), (1, va_rf (bw_lr w c1))] [] M
  refine rw_aload_n dX6_addText_0 rfl rfl ?_
  refine rw_get dX6_addText_1 fl_RX6_73 (shS hS) (klS hS) rfl ?_
  refine rw_bipush (v := 14) dX6_addText_4 (by decide) ?_
  refine rw_icmp_lt (tgt := 12) dX6_addText_6 (by decide) (fun c1 => ?_) (fun c1 => ?_)
  · have h := bw_it c1 h
    refine rw_aload_n dX6_addText_12 rfl rfl ?_
    refine rw_get dX6_addText_13 fl_RX6_49 (shS hS) (klS hS) rfl ?_
    refine rw_aload_n dX6_addText_16 rfl rfl ?_
    refine rw_get dX6_addText_17 fl_RX6_73 (shS hS) (klS hS) rfl ?_
    refine rw_aload_nQ dX6_addText_20 rfl rfl ?_
    obtain ⟨g2, h⟩ := bw_gd h
    obtain ⟨g3, h⟩ := bw_gd h
    refine rw_aastL dX6_addText_21 (shS7 hS) (klS7 hS) (bw_in g2) g3 ?_
    obtain ⟨M4, hM4, h⟩ := bw_mlE h
    refine rw_m hM4.symm ?_
    refine rw_aload_n dX6_addText_22 rfl rfl ?_
    refine rw_dup dX6_addText_23 rfl ?_
    refine rw_get dX6_addText_24 fl_RX6_73 (shS hS) (klS hS) rfl ?_
    refine rw_iconst (v := 1) dX6_addText_27 (by decide) ?_
    refine rw_iadd dX6_addText_28 ?_
    refine rw_puti dX6_addText_29 fl_RX6_73 fp_6_13 (shS hS) (klS hS) (by decide) (fun _ => rfl) (fun _ => Nat.le_of_ble_eq_true rfl) ?_
    obtain ⟨M5, hM5, h⟩ := bw_mlE h
    refine rw_m hM5.symm ?_
    refine rw_aload_n dX6_addText_32 rfl rfl ?_
    refine rw_get dX6_addText_33 fl_RX6_73 (shS hS) (klS hS) rfl ?_
    refine rw_iconst (v := 1) dX6_addText_36 (by decide) ?_
    refine rw_isub dX6_addText_37 ?_
    have h := Option.some.inj h
    subst h
    exact rw_iret dX6_addText_38 ⟨rfl, rfl⟩
  · have h := bw_if c1 h
    refine rw_ldc dX6_addText_9 cn_RX6_80 ?_
    have h := Option.some.inj h
    subst h
    exact rw_iret dX6_addText_11 ⟨rfl, rfl⟩
set_option maxRecDepth 20000 in
set_option maxHeartbeats 1000000 in
theorem th_X7_add_L3 {w : WE} {v1 : Int32} {out : Mem} : ∀ (n : Nat) (v2 : Int32) (M : Mem), f_X7_add_L3 v1 n v2 M = some out → RW w 0 0 0 0 0 cX7_add RX7 3 none (bw_Z w (bw_pv out)) 3 [(0, .ref (bw_ad w 16)), (1, .int v1), (2, .int v2)] [] M := by
  intro n
  induction n with
  | zero => intro v2 M h; cases h
  | succ n ih =>
    intro v2 M h
    rw [f_X7_add_L3] at h
    refine rw_iload_n dX7_add_3 rfl rfl ?_
    refine rw_if_lt (tgt := 48) dX7_add_4 (by decide) (fun c1 => ?_) (fun c1 => ?_)
    · have h := bw_it c1 h
      have h := Option.some.inj h
      subst h
      exact rw_vret dX7_add_48 ⟨rfl, rfl⟩
    · have h := bw_if c1 h
      refine rw_aload_n dX7_add_7 rfl rfl ?_
      refine rw_get dX7_add_8 fl_RX7_15 (sh_tape w) (bw_kl (by decide)) rfl ?_
      refine rw_bipush (v := 96) dX7_add_11 (by decide) ?_
      refine rw_icmp_ge (tgt := 48) dX7_add_13 (by decide) (fun c2 => ?_) (fun c2 => ?_)
      · have h := bw_it c2 h
        have h := Option.some.inj h
        subst h
        exact rw_vret dX7_add_48 ⟨rfl, rfl⟩
      · have h := bw_if c2 h
        refine rw_aload_n dX7_add_16 rfl rfl ?_
        refine rw_get dX7_add_17 fl_RX7_9 (sh_tape w) (bw_kl (by decide)) rfl ?_
        refine rw_aload_n dX7_add_20 rfl rfl ?_
        refine rw_get dX7_add_21 fl_RX7_15 (sh_tape w) (bw_kl (by decide)) rfl ?_
        refine rw_iload_n dX7_add_24 rfl rfl ?_
        refine rw_iload_n dX7_add_25 rfl rfl ?_
        refine rw_iushr dX7_add_26 ?_
        refine rw_sipush (v := 255) dX7_add_27 (by decide) ?_
        refine rw_iand dX7_add_30 ?_
        obtain ⟨g3, h⟩ := bw_gd h
        refine rw_iast dX7_add_31 (sh_t_bytes w) (bw_kl (by decide)) (bw_in g3) ?_
        obtain ⟨M4, hM4, h⟩ := bw_mlE h
        refine rw_m hM4.symm ?_
        refine rw_aload_n dX7_add_32 rfl rfl ?_
        refine rw_dup dX7_add_33 rfl ?_
        refine rw_get dX7_add_34 fl_RX7_15 (sh_tape w) (bw_kl (by decide)) rfl ?_
        refine rw_iconst (v := 1) dX7_add_37 (by decide) ?_
        refine rw_iadd dX7_add_38 ?_
        refine rw_puti dX7_add_39 fl_RX7_15 fp_7_1 (sh_tape w) (bw_kl (by decide)) (by decide) (fun _ => rfl) (fun _ => Nat.le_of_ble_eq_true rfl) ?_
        obtain ⟨M5, hM5, h⟩ := bw_mlE h
        refine rw_m hM5.symm ?_
        refine rw_iinc (v := v2 + -8) dX7_add_42 rfl (by rfl) (by decide) ?_
        refine rw_goto (tgt := 3) dX7_add_45 (by decide) ?_
        exact rw_sub (rw_lc rfl (rw_lc rfl (rw_lc rfl rw_lz))) (ih (v2 + -8) M5 h)
set_option maxRecDepth 20000 in
set_option maxHeartbeats 1000000 in
theorem ct_X7_add {w : WE} {M : Mem} {v1 : Int32} {out : Mem} (h : f_X7_add M v1 = some out) : Ct w 0 yX7_add cX7_add 3 none [.ref (bw_ad w 16), .int v1] M (bw_pv out) := by
  refine Ct.of (own := RX7) rfl (by decide) (by intro v hv; simp only [List.mem_cons, List.not_mem_nil, or_false] at hv; rcases hv with rfl | rfl <;> first | rfl | exact bw_cat_rf _) (Nat.le_of_ble_eq_true rfl) ?_
  unfold f_X7_add at h
  show RW w 0 0 0 0 0 cX7_add RX7 3 none (bw_Z w (bw_pv out)) 0 [(0, .ref (bw_ad w 16)), (1, .int v1)] [] M
  refine rw_bipush (v := 24) dX7_add_0 (by decide) ?_
  refine rw_istore_n dX7_add_2 rfl (by decide) ?_
  exact rw_sub (rw_lc rfl (rw_lc rfl (rw_lc rfl rw_lz))) (th_X7_add_L3 bw_fu (24 : Int32) M h)
set_option maxRecDepth 20000 in
set_option maxHeartbeats 1000000 in
theorem th_X8_begin_L50 {w : WE} {S1 : Nat} (hS1 : bw_iS S1) {out : Mem} : ∀ (n : Nat) (v3 : Int32) (M : Mem), f_X8_begin_L50 S1 n v3 M = some out → RW w 3 0 0 0 0 cX8_begin RX8 4 none (bw_Z w (bw_pv out)) 50 [(0, .ref (bw_ad w 11)), (1, .ref (bw_ad w S1)), (2, .ref (bw_ad w 1)), (3, .int v3)] [] M := by
  intro n
  induction n with
  | zero => intro v3 M h; cases h
  | succ n ih =>
    intro v3 M h
    rw [f_X8_begin_L50] at h
    refine rw_iload_n dX8_begin_50 rfl rfl ?_
    refine rw_aload_n dX8_begin_51 rfl rfl ?_
    refine rw_get dX8_begin_52 fl_RX8_41 (shS hS1) (klS hS1) rfl ?_
    refine rw_icmp_ge (tgt := 95) dX8_begin_55 (by decide) (fun c4 => ?_) (fun c4 => ?_)
    · have h := bw_it c4 h
      refine rw_aload_n dX8_begin_95 rfl rfl ?_
      refine rw_aload_n dX8_begin_96 rfl rfl ?_
      refine rw_iconst (v := 2) dX8_begin_97 (by decide) ?_
      obtain ⟨q5, hq5, h⟩ := bw_bd h
      refine rw_callV1 dX8_begin_98 ln_RX8_56 mv_X6_lawOf (shS hS1) (klS hS1) (ct_X6_lawOf hS1 hq5) (Nat.le_of_ble_eq_true rfl) (Nat.le_of_ble_eq_true rfl) (bw_kkr ?_)
      refine rw_putl dX8_begin_101 fl_RX8_60 fp_8_3 (sh_years w) (bw_kl (by decide)) (by decide) (fun _ => rfl) (fun _ => Nat.le_of_ble_eq_true rfl) ?_
      obtain ⟨M6, hM6, h⟩ := bw_mlE h
      refine rw_m hM6.symm ?_
      have h := Option.some.inj h
      subst h
      exact rw_vret dX8_begin_104 ⟨rfl, rfl⟩
    · have h := bw_if c4 h
      refine rw_aload_n dX8_begin_58 rfl rfl ?_
      refine rw_get dX8_begin_59 fl_RX8_46 (shS hS1) (klS hS1) rfl ?_
      refine rw_iload_n dX8_begin_62 rfl rfl ?_
      obtain ⟨g7, h⟩ := bw_gd h
      refine rw_iald dX8_begin_63 (shS3 hS1) (klS3 hS1) (bw_in g7) ?_
      refine rw_iconst (v := 0) dX8_begin_64 (by decide) ?_
      refine rw_bipush (v := 7) dX8_begin_65 (by decide) ?_
      refine rw_callN3 dX8_begin_67 nx_RX8_49 ms_X9_isWithin (ct_X9_isWithin rfl) (Nat.le_of_ble_eq_true rfl) (Nat.le_of_ble_eq_true rfl) (bw_kkz (fun z8 => ?_))
      refine rw_if_eq (tgt := 89) dX8_begin_70 (by decide) (fun c9 => ?_) (fun c9 => ?_)
      · have h := bw_it c9 h
        refine rw_inc dX8_begin_89 rfl (by decide) ?_
        refine rw_goto (tgt := 50) dX8_begin_92 (by decide) ?_
        exact rw_sub (rw_lc rfl (rw_lc rfl (rw_lc rfl (rw_lc rfl rw_lz)))) (ih (v3 + 1) M h)
      · have h := bw_if c9 h
        refine rw_aload_n dX8_begin_73 rfl rfl ?_
        refine rw_get dX8_begin_74 fl_RX8_15 (sh_years w) (bw_kl (by decide)) rfl ?_
        refine rw_aload_n dX8_begin_77 rfl rfl ?_
        refine rw_get dX8_begin_78 fl_RX8_46 (shS hS1) (klS hS1) rfl ?_
        refine rw_iload_n dX8_begin_81 rfl rfl ?_
        refine rw_iald dX8_begin_82 (shS3 hS1) (klS3 hS1) (bw_in g7) ?_
        refine rw_aload_n dX8_begin_83 rfl rfl ?_
        refine rw_iload_n dX8_begin_84 rfl rfl ?_
        obtain ⟨q10, hq10, h⟩ := bw_bd h
        refine rw_callV1 dX8_begin_85 ln_RX8_53 mv_X2_lineOf (sh_plan w) (bw_kl (by decide)) (ct_X2_lineOf hq10) (Nat.le_of_ble_eq_true rfl) (Nat.le_of_ble_eq_true rfl) (bw_kki ?_)
        obtain ⟨g11, h⟩ := bw_gd h
        refine rw_iast dX8_begin_88 (sh_y_growsAt w) (bw_kl (by decide)) (bw_in g11) ?_
        obtain ⟨M12, hM12, h⟩ := bw_mlE h
        refine rw_m hM12.symm ?_
        refine rw_inc dX8_begin_89 rfl (by decide) ?_
        refine rw_goto (tgt := 50) dX8_begin_92 (by decide) ?_
        exact rw_sub (rw_lc rfl (rw_lc rfl (rw_lc rfl (rw_lc rfl rw_lz)))) (ih (v3 + 1) M12 h)
set_option maxRecDepth 20000 in
set_option maxHeartbeats 1000000 in
theorem th_X8_begin_L15 {w : WE} {S1 : Nat} (hS1 : bw_iS S1) {out : Mem} : ∀ (n : Nat) (v3 : Int32) (M : Mem), f_X8_begin_L15 S1 n v3 M = some out → RW w 3 0 0 0 0 cX8_begin RX8 4 none (bw_Z w (bw_pv out)) 15 [(0, .ref (bw_ad w 11)), (1, .ref (bw_ad w S1)), (2, .ref (bw_ad w 1)), (3, .int v3)] [] M := by
  intro n
  induction n with
  | zero => intro v3 M h; cases h
  | succ n ih =>
    intro v3 M h
    rw [f_X8_begin_L15] at h
    refine rw_iload_n dX8_begin_15 rfl rfl ?_
    refine rw_aload_n dX8_begin_16 rfl rfl ?_
    refine rw_get dX8_begin_17 fl_RX8_30 (sh_years w) (bw_kl (by decide)) rfl ?_
    refine rw_icmp_ge (tgt := 40) dX8_begin_20 (by decide) (fun c2 => ?_) (fun c2 => ?_)
    · have h := bw_it c2 h
      refine rw_aload_n dX8_begin_40 rfl rfl ?_
      refine rw_get dX8_begin_41 fl_RX8_15 (sh_years w) (bw_kl (by decide)) rfl ?_
      refine rw_iconst (v := -1) dX8_begin_44 (by decide) ?_
      refine rw_fill dX8_begin_45 lj_RX8_35 (sh_y_growsAt w) (by decide) (by decide) (Nat.le_of_ble_eq_true rfl) (Nat.le_of_ble_eq_true rfl) ?_
      obtain ⟨M3, hM3, h⟩ := bw_mlE h
      refine rw_m hM3.symm ?_
      refine rw_iconst (v := 0) dX8_begin_48 (by decide) ?_
      refine rw_istore_n dX8_begin_49 rfl (by decide) ?_
      exact rw_sub (rw_lc rfl (rw_lc rfl (rw_lc rfl (rw_lc rfl rw_lz)))) (th_X8_begin_L50 hS1 bw_fu (0 : Int32) M3 h)
    · have h := bw_if c2 h
      refine rw_aload_n dX8_begin_23 rfl rfl ?_
      refine rw_get dX8_begin_24 fl_RX8_9 (sh_years w) (bw_kl (by decide)) rfl ?_
      refine rw_iload_n dX8_begin_27 rfl rfl ?_
      refine rw_aload_n dX8_begin_28 rfl rfl ?_
      refine rw_iload_n dX8_begin_29 rfl rfl ?_
      obtain ⟨q13, hq13, h⟩ := bw_bd h
      refine rw_callV1 dX8_begin_30 ln_RX8_31 mv_X2_thicknessOf (sh_plan w) (bw_kl (by decide)) (ct_X2_thicknessOf hq13) (Nat.le_of_ble_eq_true rfl) (Nat.le_of_ble_eq_true rfl) (bw_kki ?_)
      obtain ⟨g14, h⟩ := bw_gd h
      refine rw_iast dX8_begin_33 (sh_y_thick w) (bw_kl (by decide)) (bw_in g14) ?_
      obtain ⟨M15, hM15, h⟩ := bw_mlE h
      refine rw_m hM15.symm ?_
      refine rw_inc dX8_begin_34 rfl (by decide) ?_
      refine rw_goto (tgt := 15) dX8_begin_37 (by decide) ?_
      exact rw_sub (rw_lc rfl (rw_lc rfl (rw_lc rfl (rw_lc rfl rw_lz)))) (ih (v3 + 1) M15 h)
set_option maxRecDepth 20000 in
set_option maxHeartbeats 1000000 in
theorem ct_X8_begin {w : WE} {M : Mem} {S1 : Nat} (hS1 : bw_iS S1) {out : Mem} (h : f_X8_begin M S1 = some out) : Ct w 3 yX8_begin cX8_begin 4 none [.ref (bw_ad w 11), .ref (bw_ad w S1), .ref (bw_ad w 1)] M (bw_pv out) := by
  refine Ct.of (own := RX8) rfl (by decide) (by intro v hv; simp only [List.mem_cons, List.not_mem_nil, or_false] at hv; rcases hv with rfl | rfl | rfl <;> first | rfl | exact bw_cat_rf _) (Nat.le_of_ble_eq_true rfl) ?_
  unfold f_X8_begin at h
  show RW w 3 0 0 0 0 cX8_begin RX8 4 none (bw_Z w (bw_pv out)) 0 [(0, .ref (bw_ad w 11)), (1, .ref (bw_ad w S1)), (2, .ref (bw_ad w 1))] [] M
  refine rw_aload_n dX8_begin_0 rfl rfl ?_
  refine rw_aload_n dX8_begin_1 rfl rfl ?_
  refine rw_get dX8_begin_2 fl_RX8_18 (sh_plan w) (bw_kl (by decide)) rfl ?_
  refine rw_bipush (v := 24) dX8_begin_5 (by decide) ?_
  refine rw_mmin dX8_begin_7 ln_RX8_24 mm_min_s mm_i mm_min_c (Nat.le_of_ble_eq_true rfl) (Nat.le_of_ble_eq_true rfl) ?_
  refine rw_puti dX8_begin_10 fl_RX8_30 fp_8_0 (sh_years w) (bw_kl (by decide)) (by decide) (fun _ => rfl) (fun _ => Nat.le_of_ble_eq_true rfl) ?_
  obtain ⟨M1, hM1, h⟩ := bw_mlE h
  refine rw_m hM1.symm ?_
  refine rw_iconst (v := 0) dX8_begin_13 (by decide) ?_
  refine rw_istore_n dX8_begin_14 rfl (by decide) ?_
  exact rw_sub (rw_lc rfl (rw_lc rfl (rw_lc rfl (rw_lc rfl rw_lz)))) (th_X8_begin_L15 hS1 bw_fu (0 : Int32) M1 h)
set_option maxRecDepth 20000 in
set_option maxHeartbeats 1000000 in
theorem th_X8_pass_L2 {w : WE} {v1 : Int32} {out : Mem} : ∀ (n : Nat) (v2 : Int32) (M : Mem), f_X8_pass_L2 v1 n v2 M = some out → RW w 3 0 0 0 0 cX8_pass RX8 4 none (bw_Z w (bw_pv out)) 2 [(0, .ref (bw_ad w 11)), (1, .int v1), (2, .int v2)] [] M := by
  intro n
  induction n with
  | zero => intro v2 M h; cases h
  | succ n ih =>
    intro v2 M h
    rw [f_X8_pass_L2] at h
    refine rw_iload_n dX8_pass_2 rfl rfl ?_
    refine rw_bipush (v := 8) dX8_pass_3 (by decide) ?_
    refine rw_icmp_ge (tgt := 71) dX8_pass_5 (by decide) (fun c1 => ?_) (fun c1 => ?_)
    · have h := bw_it c1 h
      have h := Option.some.inj h
      subst h
      exact rw_vret dX8_pass_71 ⟨rfl, rfl⟩
    · have h := bw_if c1 h
      refine rw_aload_n dX8_pass_8 rfl rfl ?_
      refine rw_get dX8_pass_9 fl_RX8_15 (sh_years w) (bw_kl (by decide)) rfl ?_
      refine rw_iload_n dX8_pass_12 rfl rfl ?_
      obtain ⟨g2, h⟩ := bw_gd h
      refine rw_iald dX8_pass_13 (sh_y_growsAt w) (bw_kl (by decide)) (bw_in g2) ?_
      refine rw_istore_n dX8_pass_14 rfl (by decide) ?_
      refine rw_iload_n dX8_pass_15 rfl rfl ?_
      refine rw_iconst (v := 0) dX8_pass_16 (by decide) ?_
      refine rw_aload_n dX8_pass_17 rfl rfl ?_
      refine rw_get dX8_pass_18 fl_RX8_30 (sh_years w) (bw_kl (by decide)) rfl ?_
      refine rw_iconst (v := 1) dX8_pass_21 (by decide) ?_
      refine rw_isub dX8_pass_22 ?_
      refine rw_callN3 dX8_pass_23 nx_RX8_49 ms_X9_isWithin (ct_X9_isWithin rfl) (Nat.le_of_ble_eq_true rfl) (Nat.le_of_ble_eq_true rfl) (bw_kkz (fun z3 => ?_))
      refine rw_if_eq (tgt := 65) dX8_pass_26 (by decide) (fun c4 => ?_) (fun c4 => ?_)
      · have h := bw_it c4 h
        refine rw_inc dX8_pass_65 rfl (by decide) ?_
        refine rw_goto (tgt := 2) dX8_pass_68 (by decide) ?_
        exact rw_sub (rw_lc rfl (rw_lc rfl (rw_lc rfl rw_lz))) (ih (v2 + 1) M h)
      · have h := bw_if c4 h
        refine rw_aload_n dX8_pass_29 rfl rfl ?_
        refine rw_get dX8_pass_30 fl_RX8_9 (sh_years w) (bw_kl (by decide)) rfl ?_
        refine rw_iload_n dX8_pass_33 rfl rfl ?_
        refine rw_dup2 dX8_pass_34 rfl rfl ?_
        obtain ⟨g5, h⟩ := bw_gd h
        refine rw_iald dX8_pass_35 (sh_y_thick w) (bw_kl (by decide)) (bw_in g5) ?_
        refine rw_aload_n dX8_pass_36 rfl rfl ?_
        refine rw_get dX8_pass_37 fl_RX8_60 (sh_years w) (bw_kl (by decide)) rfl ?_
        refine rw_ifnonnullL (tgt := 47) dX8_pass_40 (by decide) (fun c6 => ?_) (fun c6 => ?_)
        · have h := bw_if c6 h
          refine rw_aload_n dX8_pass_47 rfl rfl ?_
          refine rw_get dX8_pass_48 fl_RX8_60 (sh_years w) (bw_kl (by decide)) rfl ?_
          refine rw_iload_n dX8_pass_51 rfl rfl ?_
          refine rw_iload_n dX8_pass_52 rfl rfl ?_
          refine rw_iconst (v := 0) dX8_pass_53 (by decide) ?_
          obtain ⟨q7, hq7, h⟩ := bw_bd h
          obtain ⟨g8, h⟩ := bw_gd h
          refine rw_callL3 dX8_pass_54 ln_RX8_64 mv_X1_gives g8 (ct_X1_gives hq7) (Nat.le_of_ble_eq_true rfl) (Nat.le_of_ble_eq_true rfl) (bw_kki ?_)
          refine rw_iconst (v := 0) dX8_pass_57 (by decide) ?_
          refine rw_bipush (v := 99) dX8_pass_58 (by decide) ?_
          refine rw_callN3 dX8_pass_60 nx_RX8_70 ms_X9_held (ct_X9_held rfl) (Nat.le_of_ble_eq_true rfl) (Nat.le_of_ble_eq_true rfl) (bw_kki ?_)
          refine rw_iadd dX8_pass_63 ?_
          refine rw_iast dX8_pass_64 (sh_y_thick w) (bw_kl (by decide)) (bw_in g5) ?_
          obtain ⟨M9, hM9, h⟩ := bw_mlE h
          refine rw_m hM9.symm ?_
          refine rw_inc dX8_pass_65 rfl (by decide) ?_
          refine rw_goto (tgt := 2) dX8_pass_68 (by decide) ?_
          exact rw_sub (rw_lc rfl (rw_lc rfl (rw_lc rfl rw_lz))) (ih (v2 + 1) M9 h)
        · have h := bw_it c6 h
          refine rw_iconst (v := 1) dX8_pass_43 (by decide) ?_
          refine rw_goto (tgt := 63) dX8_pass_44 (by decide) ?_
          refine rw_iadd dX8_pass_63 ?_
          refine rw_iast dX8_pass_64 (sh_y_thick w) (bw_kl (by decide)) (bw_in g5) ?_
          obtain ⟨M10, hM10, h⟩ := bw_mlE h
          refine rw_m hM10.symm ?_
          refine rw_inc dX8_pass_65 rfl (by decide) ?_
          refine rw_goto (tgt := 2) dX8_pass_68 (by decide) ?_
          exact rw_sub (rw_lc rfl (rw_lc rfl (rw_lc rfl rw_lz))) (ih (v2 + 1) M10 h)
set_option maxRecDepth 20000 in
set_option maxHeartbeats 1000000 in
theorem ct_X8_pass {w : WE} {M : Mem} {v1 : Int32} {out : Mem} (h : f_X8_pass M v1 = some out) : Ct w 3 yX8_pass cX8_pass 4 none [.ref (bw_ad w 11), .int v1] M (bw_pv out) := by
  refine Ct.of (own := RX8) rfl (by decide) (by intro v hv; simp only [List.mem_cons, List.not_mem_nil, or_false] at hv; rcases hv with rfl | rfl <;> first | rfl | exact bw_cat_rf _) (Nat.le_of_ble_eq_true rfl) ?_
  unfold f_X8_pass at h
  show RW w 3 0 0 0 0 cX8_pass RX8 4 none (bw_Z w (bw_pv out)) 0 [(0, .ref (bw_ad w 11)), (1, .int v1)] [] M
  refine rw_iconst (v := 0) dX8_pass_0 (by decide) ?_
  refine rw_istore_n dX8_pass_1 rfl (by decide) ?_
  exact rw_sub (rw_lc rfl (rw_lc rfl (rw_lc rfl rw_lz))) (th_X8_pass_L2 bw_fu (0 : Int32) M h)
set_option maxRecDepth 20000 in
set_option maxHeartbeats 1000000 in
theorem th_X8_thickest_L4 {w : WE} {M : Mem} {out : Int32} : ∀ (n : Nat) (v1 : Int32) (v2 : Int32), f_X8_thickest_L4 M n v1 v2 = some out → RW w 0 0 0 0 0 cX8_thickest RX8 3 (some .int) (bw_Z w (bw_pi (out) M)) 4 [(0, .ref (bw_ad w 11)), (1, .int v1), (2, .int v2)] [] M := by
  intro n
  induction n with
  | zero => intro v1 v2 h; cases h
  | succ n ih =>
    intro v1 v2 h
    rw [f_X8_thickest_L4] at h
    refine rw_iload_n dX8_thickest_4 rfl rfl ?_
    refine rw_aload_n dX8_thickest_5 rfl rfl ?_
    refine rw_get dX8_thickest_6 fl_RX8_30 (sh_years w) (bw_kl (by decide)) rfl ?_
    refine rw_icmp_ge (tgt := 35) dX8_thickest_9 (by decide) (fun c1 => ?_) (fun c1 => ?_)
    · have h := bw_it c1 h
      refine rw_iload_n dX8_thickest_35 rfl rfl ?_
      have h := Option.some.inj h
      subst h
      exact rw_iret dX8_thickest_36 ⟨rfl, rfl⟩
    · have h := bw_if c1 h
      refine rw_aload_n dX8_thickest_12 rfl rfl ?_
      refine rw_get dX8_thickest_13 fl_RX8_9 (sh_years w) (bw_kl (by decide)) rfl ?_
      refine rw_iload_n dX8_thickest_16 rfl rfl ?_
      obtain ⟨g2, h⟩ := bw_gd h
      refine rw_iald dX8_thickest_17 (sh_y_thick w) (bw_kl (by decide)) (bw_in g2) ?_
      refine rw_aload_n dX8_thickest_18 rfl rfl ?_
      refine rw_get dX8_thickest_19 fl_RX8_9 (sh_years w) (bw_kl (by decide)) rfl ?_
      refine rw_iload_n dX8_thickest_22 rfl rfl ?_
      obtain ⟨g3, h⟩ := bw_gd h
      refine rw_iald dX8_thickest_23 (sh_y_thick w) (bw_kl (by decide)) (bw_in g3) ?_
      have key : RW w 0 0 0 0 0 cX8_thickest RX8 3 (some .int) (bw_Z w (bw_pi (out) M)) 29 [(0, .ref (bw_ad w 11)), (1, .int (if (M 12 v2.toNatClampNeg) ≤ (M 12 v1.toNatClampNeg) then v1 else v2)), (2, .int v2)] [] M := by
        refine rw_inc dX8_thickest_29 rfl (by decide) ?_
        refine rw_goto (tgt := 4) dX8_thickest_32 (by decide) ?_
        exact rw_sub (rw_lc rfl (rw_lc rfl (rw_lc rfl rw_lz))) (ih (if (M 12 v2.toNatClampNeg) ≤ (M 12 v1.toNatClampNeg) then v1 else v2) (v2 + 1) h)
      refine rw_icmp_le (tgt := 29) dX8_thickest_24 (by decide) (fun c4 => ?_) (fun c4 => ?_)
      · simp only [if_pos c4] at key
        exact rw_sub (rw_lc rfl (rw_lc rfl (rw_lc rfl rw_lz))) key
      · refine rw_iload_n dX8_thickest_27 rfl rfl ?_
        refine rw_istore_n dX8_thickest_28 rfl (by decide) ?_
        simp only [if_neg c4] at key
        exact rw_sub (rw_lc rfl (rw_lc rfl (rw_lc rfl rw_lz))) key
set_option maxRecDepth 20000 in
set_option maxHeartbeats 1000000 in
theorem ct_X8_thickest {w : WE} {M : Mem} {out : Int32} (h : f_X8_thickest M = some out) : Ct w 0 yX8_thickest cX8_thickest 3 (some .int) [.ref (bw_ad w 11)] M (bw_pi (out) M) := by
  refine Ct.of (own := RX8) rfl (by decide) (by intro v hv; rw [List.mem_singleton.mp hv]; first | rfl | exact bw_cat_rf _) (Nat.le_of_ble_eq_true rfl) ?_
  unfold f_X8_thickest at h
  show RW w 0 0 0 0 0 cX8_thickest RX8 3 (some .int) (bw_Z w (bw_pi (out) M)) 0 [(0, .ref (bw_ad w 11))] [] M
  refine rw_iconst (v := 0) dX8_thickest_0 (by decide) ?_
  refine rw_istore_n dX8_thickest_1 rfl (by decide) ?_
  refine rw_iconst (v := 1) dX8_thickest_2 (by decide) ?_
  refine rw_istore_n dX8_thickest_3 rfl (by decide) ?_
  exact rw_sub (rw_lc rfl (rw_lc rfl (rw_lc rfl rw_lz))) (th_X8_thickest_L4 bw_fu (0 : Int32) (1 : Int32) h)
set_option maxRecDepth 20000 in
set_option maxHeartbeats 1000000 in
theorem ct_X8_thickness {w : WE} {M : Mem} {out : Int32} (h : f_X8_thickness M = some out) : Ct w 1 yX8_thickness cX8_thickness 1 (some .int) [.ref (bw_ad w 11)] M (bw_pi (out) M) := by
  refine Ct.of (own := RX8) rfl (by decide) (by intro v hv; rw [List.mem_singleton.mp hv]; first | rfl | exact bw_cat_rf _) (Nat.le_of_ble_eq_true rfl) ?_
  unfold f_X8_thickness at h
  show RW w 1 0 0 0 0 cX8_thickness RX8 1 (some .int) (bw_Z w (bw_pi (out) M)) 0 [(0, .ref (bw_ad w 11))] [] M
  refine rw_aload_n dX8_thickness_0 rfl rfl ?_
  refine rw_get dX8_thickness_1 fl_RX8_9 (sh_years w) (bw_kl (by decide)) rfl ?_
  refine rw_aload_n dX8_thickness_4 rfl rfl ?_
  obtain ⟨q1, hq1, h⟩ := bw_bd h
  refine rw_callV0 dX8_thickness_5 ln_RX8_73 mv_X8_thickest (sh_years w) (bw_kl (by decide)) (ct_X8_thickest hq1) (Nat.le_of_ble_eq_true rfl) (Nat.le_of_ble_eq_true rfl) (bw_kki ?_)
  obtain ⟨g2, h⟩ := bw_gd h
  refine rw_iald dX8_thickness_8 (sh_y_thick w) (bw_kl (by decide)) (bw_in g2) ?_
  have h := Option.some.inj h
  subst h
  exact rw_iret dX8_thickness_9 ⟨rfl, rfl⟩
set_option maxRecDepth 20000 in
set_option maxHeartbeats 1000000 in
theorem ct_X9_book {w : WE} {M : Mem} {v1 : Int32} {v2 : Int32} {out : Int32 × Mem} (h : f_X9_book M v1 v2 = some out) : Ct w 2 yX9_book cX9_book 3 (some .int) [.ref (bw_ad w 0), .int v1, .int v2] M (bw_pi (out.1) out.2) := by
  refine Ct.of (own := RX9) rfl (by decide) (by intro v hv; simp only [List.mem_cons, List.not_mem_nil, or_false] at hv; rcases hv with rfl | rfl | rfl <;> first | rfl | exact bw_cat_rf _) (Nat.le_of_ble_eq_true rfl) ?_
  unfold f_X9_book at h
  show RW w 2 0 0 0 0 cX9_book RX9 3 (some .int) (bw_Z w (bw_pi (out.1) out.2)) 0 [(0, .ref (bw_ad w 0)), (1, .int v1), (2, .int v2)] [] M
  refine rw_iload_n dX9_book_0 rfl rfl ?_
  refine rw_callS1 dX9_book_1 ln_RX9_75 ms_X9_isSize (ct_X9_isSize rfl) (Nat.le_of_ble_eq_true rfl) (Nat.le_of_ble_eq_true rfl) (bw_kkz (fun z1 => ?_))
  refine rw_if_eq (tgt := 17) dX9_book_4 (by decide) (fun c2 => ?_) (fun c2 => ?_)
  · have h := bw_it c2 h
    refine rw_ldc dX9_book_17 cn_RX9_83 ?_
    have h := Option.some.inj h
    subst h
    exact rw_iret dX9_book_19 ⟨rfl, rfl⟩
  · have h := bw_if c2 h
    refine rw_iload_n dX9_book_7 rfl rfl ?_
    refine rw_iconst (v := 0) dX9_book_8 (by decide) ?_
    refine rw_bipush (v := 7) dX9_book_9 (by decide) ?_
    refine rw_callS3 dX9_book_11 ln_RX9_79 ms_X9_isWithin (ct_X9_isWithin rfl) (Nat.le_of_ble_eq_true rfl) (Nat.le_of_ble_eq_true rfl) (bw_kkz (fun z3 => ?_))
    refine rw_if_ne (tgt := 20) dX9_book_14 (by decide) (fun c4 => ?_) (fun c4 => ?_)
    · have h := bw_if c4 h
      refine rw_aload_n dX9_book_20 rfl rfl ?_
      refine rw_get dX9_book_21 fl_RX9_10 (sh_x w) (bw_kl (by decide)) rfl ?_
      refine rw_get dX9_book_24 fl_RX9_84 (sh_now w) (bw_kl (by decide)) rfl ?_
      refine rw_bipush (v := 24) dX9_book_27 (by decide) ?_
      refine rw_icmp_lt (tgt := 35) dX9_book_29 (by decide) (fun c5 => ?_) (fun c5 => ?_)
      · have h := bw_it c5 h
        refine rw_aload_n dX9_book_35 rfl rfl ?_
        refine rw_get dX9_book_36 fl_RX9_10 (sh_x w) (bw_kl (by decide)) rfl ?_
        refine rw_iload_n dX9_book_39 rfl rfl ?_
        refine rw_bipush (v := 100) dX9_book_40 (by decide) ?_
        refine rw_idiv dX9_book_42 (by decide) ?_
        refine rw_iload_n dX9_book_43 rfl rfl ?_
        refine rw_bipush (v := 100) dX9_book_44 (by decide) ?_
        refine rw_irem dX9_book_46 (by decide) ?_
        refine rw_iload_n dX9_book_47 rfl rfl ?_
        obtain ⟨q6, hq6, h⟩ := bw_bd h
        refine rw_callV3 dX9_book_48 ln_RX9_89 mv_X6_addBook (sh_now w) (bw_kl (by decide)) (ct_X6_addBook (by decide) hq6) (Nat.le_of_ble_eq_true rfl) (Nat.le_of_ble_eq_true rfl) (bw_kki ?_)
        have h := Option.some.inj h
        subst h
        exact rw_iret dX9_book_51 ⟨rfl, rfl⟩
      · have h := bw_if c5 h
        refine rw_ldc dX9_book_32 cn_RX9_88 ?_
        have h := Option.some.inj h
        subst h
        exact rw_iret dX9_book_34 ⟨rfl, rfl⟩
    · have h := bw_it c4 h
      refine rw_ldc dX9_book_17 cn_RX9_83 ?_
      have h := Option.some.inj h
      subst h
      exact rw_iret dX9_book_19 ⟨rfl, rfl⟩
set_option maxRecDepth 20000 in
set_option maxHeartbeats 1000000 in
theorem ct_X9_bookTold {w : WE} {M : Mem} {v1 : Int32} {v2 : Int32} {out : Int32 × Mem} (h : f_X9_bookTold M v1 v2 = some out) : Ct w 7 yX9_bookTold cX9_bookTold 3 (some .int) [.ref (bw_ad w 0), .int v1, .int v2] M (bw_pi (out.1) out.2) := by
  refine Ct.of (own := RX9) rfl (by decide) (by intro v hv; simp only [List.mem_cons, List.not_mem_nil, or_false] at hv; rcases hv with rfl | rfl | rfl <;> first | rfl | exact bw_cat_rf _) (Nat.le_of_ble_eq_true rfl) ?_
  unfold f_X9_bookTold at h
  show RW w 7 0 0 0 0 cX9_bookTold RX9 3 (some .int) (bw_Z w (bw_pi (out.1) out.2)) 0 [(0, .ref (bw_ad w 0)), (1, .int v1), (2, .int v2)] [] M
  refine rw_aload_n dX9_bookTold_0 rfl rfl ?_
  refine rw_get dX9_bookTold_1 fl_RX9_10 (sh_x w) (bw_kl (by decide)) rfl ?_
  refine rw_iload_n dX9_bookTold_4 rfl rfl ?_
  refine rw_callV1 dX9_bookTold_5 ln_RX9_93 mv_X6_hasBook (sh_now w) (bw_kl (by decide)) (ct_X6_hasBook (by decide) rfl) (Nat.le_of_ble_eq_true rfl) (Nat.le_of_ble_eq_true rfl) (bw_kkz (fun z1 => ?_))
  refine rw_if_ne (tgt := 14) dX9_bookTold_8 (by decide) (fun c2 => ?_) (fun c2 => ?_)
  · have h := bw_if c2 h
    refine rw_iload_n dX9_bookTold_14 rfl rfl ?_
    refine rw_case (0 : Int32) (fun c3 => ?_) (fun c3 => ?_)
    · have h := bw_it c3 h
      refine rw_tabK (tgt := 48) dX9_bookTold_15 c3 (by decide) (by decide) rfl (by decide) ?_
      refine rw_aload_n dX9_bookTold_48 rfl rfl ?_
      refine rw_get dX9_bookTold_49 fl_RX9_10 (sh_x w) (bw_kl (by decide)) rfl ?_
      refine rw_get dX9_bookTold_52 fl_RX9_96 (sh_now w) (bw_kl (by decide)) rfl ?_
      refine rw_iload_n dX9_bookTold_55 rfl rfl ?_
      obtain ⟨g4, h⟩ := bw_gd h
      refine rw_iald dX9_bookTold_56 (sh_now_height w) (bw_kl (by decide)) (bw_in g4) ?_
      have h := Option.some.inj h
      subst h
      exact rw_iret dX9_bookTold_57 ⟨rfl, rfl⟩
    · have h := bw_if c3 h
      refine rw_case (1 : Int32) (fun c5 => ?_) (fun c5 => ?_)
      · have h := bw_it c5 h
        refine rw_tabK (tgt := 58) dX9_bookTold_15 c5 (by decide) (by decide) rfl (by decide) ?_
        refine rw_aload_n dX9_bookTold_58 rfl rfl ?_
        refine rw_get dX9_bookTold_59 fl_RX9_10 (sh_x w) (bw_kl (by decide)) rfl ?_
        refine rw_get dX9_bookTold_62 fl_RX9_99 (sh_now w) (bw_kl (by decide)) rfl ?_
        refine rw_iload_n dX9_bookTold_65 rfl rfl ?_
        obtain ⟨g6, h⟩ := bw_gd h
        refine rw_iald dX9_bookTold_66 (sh_now_thick w) (bw_kl (by decide)) (bw_in g6) ?_
        have h := Option.some.inj h
        subst h
        exact rw_iret dX9_bookTold_67 ⟨rfl, rfl⟩
      · have h := bw_if c5 h
        refine rw_case (2 : Int32) (fun c7 => ?_) (fun c7 => ?_)
        · have h := bw_it c7 h
          refine rw_tabK (tgt := 68) dX9_bookTold_15 c7 (by decide) (by decide) rfl (by decide) ?_
          refine rw_aload_n dX9_bookTold_68 rfl rfl ?_
          refine rw_get dX9_bookTold_69 fl_RX9_10 (sh_x w) (bw_kl (by decide)) rfl ?_
          refine rw_get dX9_bookTold_72 fl_RX9_102 (sh_now w) (bw_kl (by decide)) rfl ?_
          refine rw_iload_n dX9_bookTold_75 rfl rfl ?_
          obtain ⟨g8, h⟩ := bw_gd h
          refine rw_iald dX9_bookTold_76 (sh_now_part w) (bw_kl (by decide)) (bw_in g8) ?_
          have h := Option.some.inj h
          subst h
          exact rw_iret dX9_bookTold_77 ⟨rfl, rfl⟩
        · have h := bw_if c7 h
          refine rw_case (3 : Int32) (fun c9 => ?_) (fun c9 => ?_)
          · have h := bw_it c9 h
            refine rw_tabK (tgt := 78) dX9_bookTold_15 c9 (by decide) (by decide) rfl (by decide) ?_
            refine rw_aload_n dX9_bookTold_78 rfl rfl ?_
            refine rw_get dX9_bookTold_79 fl_RX9_10 (sh_x w) (bw_kl (by decide)) rfl ?_
            refine rw_get dX9_bookTold_82 fl_RX9_105 (sh_now w) (bw_kl (by decide)) rfl ?_
            refine rw_iload_n dX9_bookTold_85 rfl rfl ?_
            obtain ⟨g10, h⟩ := bw_gd h
            refine rw_zald dX9_bookTold_86 (sh_now_tied w) (bw_kl (by decide)) (bw_in g10) ?_
            have key : RW w 7 0 0 0 0 cX9_bookTold RX9 3 (some .int) (bw_Z w (bw_pi (out.1) out.2)) 95 [] [.int (if (M 29 v1.toNatClampNeg) = 0 then (0 : Int32) else (1 : Int32))] M := by
              have h := Option.some.inj h
              subst h
              exact rw_iret dX9_bookTold_95 ⟨rfl, rfl⟩
            refine rw_if_eq (tgt := 94) dX9_bookTold_87 (by decide) (fun c11 => ?_) (fun c11 => ?_)
            · refine rw_iconst (v := 0) dX9_bookTold_94 (by decide) ?_
              simp only [if_pos c11] at key
              exact rw_sub rw_lz key
            · refine rw_iconst (v := 1) dX9_bookTold_90 (by decide) ?_
              refine rw_goto (tgt := 95) dX9_bookTold_91 (by decide) ?_
              simp only [if_neg c11] at key
              exact rw_sub rw_lz key
          · have h := bw_if c9 h
            refine rw_case (4 : Int32) (fun c12 => ?_) (fun c12 => ?_)
            · have h := bw_it c12 h
              refine rw_tabK (tgt := 96) dX9_bookTold_15 c12 (by decide) (by decide) rfl (by decide) ?_
              refine rw_aload_n dX9_bookTold_96 rfl rfl ?_
              refine rw_get dX9_bookTold_97 fl_RX9_22 (sh_x w) (bw_kl (by decide)) rfl ?_
              refine rw_aload_n dX9_bookTold_100 rfl rfl ?_
              refine rw_get dX9_bookTold_101 fl_RX9_10 (sh_x w) (bw_kl (by decide)) rfl ?_
              obtain ⟨q13, hq13, h⟩ := bw_bd h
              refine rw_callV1 dX9_bookTold_104 ln_RX9_109 mv_X2_load (sh_plan w) (bw_kl (by decide)) (ct_X2_load (by decide) hq13) (Nat.le_of_ble_eq_true rfl) (Nat.le_of_ble_eq_true rfl) (bw_kkr ?_)
              obtain ⟨q14, hq14, h⟩ := bw_bd h
              refine rw_callV0 dX9_bookTold_107 ln_RX9_113 mv_X2_settle (sh_plan w) (bw_kl (by decide)) (ct_X2_settle hq14) (Nat.le_of_ble_eq_true rfl) (Nat.le_of_ble_eq_true rfl) (bw_kkz (fun z15 => ?_))
              refine rw_if_eq (tgt := 124) dX9_bookTold_110 (by decide) (fun c16 => ?_) (fun c16 => ?_)
              · have h := bw_it c16 h
                refine rw_ldc dX9_bookTold_124 cn_RX9_121 ?_
                have h := Option.some.inj h
                subst h
                exact rw_iret dX9_bookTold_126 ⟨rfl, rfl⟩
              · have h := bw_if c16 h
                refine rw_aload_n dX9_bookTold_113 rfl rfl ?_
                refine rw_get dX9_bookTold_114 fl_RX9_22 (sh_x w) (bw_kl (by decide)) rfl ?_
                refine rw_iload_n dX9_bookTold_117 rfl rfl ?_
                obtain ⟨q17, hq17, h⟩ := bw_bd h
                refine rw_callV1 dX9_bookTold_118 ln_RX9_117 mv_X2_lineOf (sh_plan w) (bw_kl (by decide)) (ct_X2_lineOf hq17) (Nat.le_of_ble_eq_true rfl) (Nat.le_of_ble_eq_true rfl) (bw_kki ?_)
                refine rw_goto (tgt := 126) dX9_bookTold_121 (by decide) ?_
                have h := Option.some.inj h
                subst h
                exact rw_iret dX9_bookTold_126 ⟨rfl, rfl⟩
            · have h := bw_if c12 h
              refine rw_tabD (tgt := 127) dX9_bookTold_15 (by have := lv_neT (a := 0) c3 (by decide); have := lv_neT (a := 1) c5 (by decide); have := lv_neT (a := 2) c7 (by decide); have := lv_neT (a := 3) c9 (by decide); have := lv_neT (a := 4) c12 (by decide); omega) (by decide) ?_
              refine rw_ldc dX9_bookTold_127 cn_RX9_83 ?_
              have h := Option.some.inj h
              subst h
              exact rw_iret dX9_bookTold_129 ⟨rfl, rfl⟩
  · have h := bw_it c2 h
    refine rw_ldc dX9_bookTold_11 cn_RX9_83 ?_
    have h := Option.some.inj h
    subst h
    exact rw_iret dX9_bookTold_13 ⟨rfl, rfl⟩
set_option maxRecDepth 20000 in
set_option maxHeartbeats 1000000 in
theorem ct_X9_tie {w : WE} {M : Mem} {v1 : Int32} {v2 : Int32} {out : Int32 × Mem} (h : f_X9_tie M v1 v2 = some out) : Ct w 2 yX9_tie cX9_tie 4 (some .int) [.ref (bw_ad w 0), .int v1, .int v2] M (bw_pi (out.1) out.2) := by
  refine Ct.of (own := RX9) rfl (by decide) (by intro v hv; simp only [List.mem_cons, List.not_mem_nil, or_false] at hv; rcases hv with rfl | rfl | rfl <;> first | rfl | exact bw_cat_rf _) (Nat.le_of_ble_eq_true rfl) ?_
  unfold f_X9_tie at h
  show RW w 2 0 0 0 0 cX9_tie RX9 4 (some .int) (bw_Z w (bw_pi (out.1) out.2)) 0 [(0, .ref (bw_ad w 0)), (1, .int v1), (2, .int v2)] [] M
  refine rw_aload_n dX9_tie_0 rfl rfl ?_
  refine rw_get dX9_tie_1 fl_RX9_10 (sh_x w) (bw_kl (by decide)) rfl ?_
  refine rw_iload_n dX9_tie_4 rfl rfl ?_
  refine rw_callV1 dX9_tie_5 ln_RX9_93 mv_X6_hasBook (sh_now w) (bw_kl (by decide)) (ct_X6_hasBook (by decide) rfl) (Nat.le_of_ble_eq_true rfl) (Nat.le_of_ble_eq_true rfl) (bw_kkz (fun z1 => ?_))
  refine rw_if_ne (tgt := 14) dX9_tie_8 (by decide) (fun c2 => ?_) (fun c2 => ?_)
  · have h := bw_if c2 h
    refine rw_aload_n dX9_tie_14 rfl rfl ?_
    refine rw_get dX9_tie_15 fl_RX9_10 (sh_x w) (bw_kl (by decide)) rfl ?_
    refine rw_get dX9_tie_18 fl_RX9_105 (sh_now w) (bw_kl (by decide)) rfl ?_
    refine rw_iload_n dX9_tie_21 rfl rfl ?_
    obtain ⟨g3, h⟩ := bw_gd h
    refine rw_zald dX9_tie_22 (sh_now_tied w) (bw_kl (by decide)) (bw_in g3) ?_
    refine rw_iload_n dX9_tie_23 rfl rfl ?_
    have key : RW w 2 0 0 0 0 cX9_tie RX9 4 (some .int) (bw_Z w (bw_pi (out.1) out.2)) 32 [(0, .ref (bw_ad w 0)), (1, .int v1), (2, .int v2)] [.int (if (M 29 v1.toNatClampNeg) = v2 then (0 : Int32) else (1 : Int32))] M := by
      obtain ⟨x5, hx5, h⟩ := bw_mlE h
      refine rw_ti hx5 ?_
      refine rw_istore_n dX9_tie_32 rfl (by decide) ?_
      refine rw_aload_n dX9_tie_33 rfl rfl ?_
      refine rw_get dX9_tie_34 fl_RX9_10 (sh_x w) (bw_kl (by decide)) rfl ?_
      refine rw_get dX9_tie_37 fl_RX9_105 (sh_now w) (bw_kl (by decide)) rfl ?_
      refine rw_iload_n dX9_tie_40 rfl rfl ?_
      refine rw_iload_n dX9_tie_41 rfl rfl ?_
      refine rw_zast dX9_tie_42 (sh_now_tied w) (bw_kl (by decide)) (bw_in g3) ?_
      obtain ⟨M6, hM6, h⟩ := bw_mlE h
      refine rw_m hM6.symm ?_
      refine rw_iload_n dX9_tie_43 rfl rfl ?_
      have key : RW w 2 0 0 0 0 cX9_tie RX9 4 (some .int) (bw_Z w (bw_pi (out.1) out.2)) 52 [] [.int (if x5 = 0 then (0 : Int32) else (1 : Int32))] M6 := by
        have h := Option.some.inj h
        subst h
        exact rw_iret dX9_tie_52 ⟨rfl, rfl⟩
      refine rw_if_eq (tgt := 51) dX9_tie_44 (by decide) (fun c7 => ?_) (fun c7 => ?_)
      · refine rw_iconst (v := 0) dX9_tie_51 (by decide) ?_
        simp only [if_pos c7] at key
        exact rw_sub rw_lz key
      · refine rw_iconst (v := 1) dX9_tie_47 (by decide) ?_
        refine rw_goto (tgt := 52) dX9_tie_48 (by decide) ?_
        simp only [if_neg c7] at key
        exact rw_sub rw_lz key
    refine rw_icmp_eq (tgt := 31) dX9_tie_24 (by decide) (fun c4 => ?_) (fun c4 => ?_)
    · refine rw_iconst (v := 0) dX9_tie_31 (by decide) ?_
      simp only [if_pos c4] at key
      exact rw_sub (rw_lc rfl (rw_lc rfl (rw_lc rfl rw_lz))) key
    · refine rw_iconst (v := 1) dX9_tie_27 (by decide) ?_
      refine rw_goto (tgt := 32) dX9_tie_28 (by decide) ?_
      simp only [if_neg c4] at key
      exact rw_sub (rw_lc rfl (rw_lc rfl (rw_lc rfl rw_lz))) key
  · have h := bw_it c2 h
    refine rw_ldc dX9_tie_11 cn_RX9_83 ?_
    have h := Option.some.inj h
    subst h
    exact rw_iret dX9_tie_13 ⟨rfl, rfl⟩
set_option maxRecDepth 20000 in
set_option maxHeartbeats 1000000 in
theorem th_X9_deal_L30 {w : WE} {v2 : Int32} {out : Int32 × Mem} : ∀ (n : Nat) (v3 : Int32) (M : Mem), f_X9_deal_L30 v2 n v3 M = some out → RW w 2 0 0 0 0 cX9_deal RX9 7 (some .int) (bw_Z w (bw_pi (out.1) out.2)) 30 [(0, .ref (bw_ad w 0)), (2, .int v2), (3, .int v3)] [] M := by
  intro n
  induction n with
  | zero => intro v3 M h; cases h
  | succ n ih =>
    intro v3 M h
    rw [f_X9_deal_L30] at h
    refine rw_iload_n dX9_deal_30 rfl rfl ?_
    refine rw_iload_n dX9_deal_31 rfl rfl ?_
    refine rw_icmp_ge (tgt := 96) dX9_deal_32 (by decide) (fun c4 => ?_) (fun c4 => ?_)
    · have h := bw_it c4 h
      refine rw_iload_n dX9_deal_96 rfl rfl ?_
      have h := Option.some.inj h
      subst h
      exact rw_iret dX9_deal_97 ⟨rfl, rfl⟩
    · have h := bw_if c4 h
      refine rw_bipush (v := 20) dX9_deal_35 (by decide) ?_
      refine rw_aload_n dX9_deal_37 rfl rfl ?_
      refine rw_get dX9_deal_38 fl_RX9_10 (sh_x w) (bw_kl (by decide)) rfl ?_
      obtain ⟨q5, hq5, h⟩ := bw_bd h
      refine rw_callV0 dX9_deal_41 ln_RX9_128 mv_X6_draw (sh_now w) (bw_kl (by decide)) (ct_X6_draw (by decide) hq5) (Nat.le_of_ble_eq_true rfl) (Nat.le_of_ble_eq_true rfl) (bw_kki ?_)
      refine rw_bipush (v := 30) dX9_deal_44 (by decide) ?_
      refine rw_irem dX9_deal_46 (by decide) ?_
      refine rw_iadd dX9_deal_47 ?_
      obtain ⟨x6, hx6, h⟩ := bw_mlE h
      refine rw_ti hx6 ?_
      refine rw_istore dX9_deal_48 (by decide) ?_
      refine rw_iconst (v := 1) dX9_deal_50 (by decide) ?_
      refine rw_aload_n dX9_deal_51 rfl rfl ?_
      refine rw_get dX9_deal_52 fl_RX9_10 (sh_x w) (bw_kl (by decide)) rfl ?_
      obtain ⟨q7, hq7, h⟩ := bw_bd h
      refine rw_callV0 dX9_deal_55 ln_RX9_128 mv_X6_draw (sh_now w) (bw_kl (by decide)) (ct_X6_draw (by decide) hq7) (Nat.le_of_ble_eq_true rfl) (Nat.le_of_ble_eq_true rfl) (bw_kki ?_)
      refine rw_bipush (v := 20) dX9_deal_58 (by decide) ?_
      refine rw_irem dX9_deal_60 (by decide) ?_
      refine rw_iadd dX9_deal_61 ?_
      obtain ⟨x8, hx8, h⟩ := bw_mlE h
      refine rw_ti hx8 ?_
      refine rw_istore dX9_deal_62 (by decide) ?_
      refine rw_aload_n dX9_deal_64 rfl rfl ?_
      refine rw_get dX9_deal_65 fl_RX9_10 (sh_x w) (bw_kl (by decide)) rfl ?_
      obtain ⟨q9, hq9, h⟩ := bw_bd h
      refine rw_callV0 dX9_deal_68 ln_RX9_128 mv_X6_draw (sh_now w) (bw_kl (by decide)) (ct_X6_draw (by decide) hq9) (Nat.le_of_ble_eq_true rfl) (Nat.le_of_ble_eq_true rfl) (bw_kki ?_)
      refine rw_bipush (v := 8) dX9_deal_71 (by decide) ?_
      refine rw_irem dX9_deal_73 (by decide) ?_
      refine rw_istore dX9_deal_74 (by decide) ?_
      refine rw_aload_n dX9_deal_76 rfl rfl ?_
      refine rw_get dX9_deal_77 fl_RX9_10 (sh_x w) (bw_kl (by decide)) rfl ?_
      refine rw_iload dX9_deal_80 rfl ?_
      refine rw_iload dX9_deal_82 rfl ?_
      refine rw_iload dX9_deal_84 rfl ?_
      obtain ⟨q10, hq10, h⟩ := bw_bd h
      refine rw_callV3 dX9_deal_86 ln_RX9_89 mv_X6_addBook (sh_now w) (bw_kl (by decide)) (ct_X6_addBook (by decide) hq10) (Nat.le_of_ble_eq_true rfl) (Nat.le_of_ble_eq_true rfl) (bw_kki ?_)
      refine rw_pop dX9_deal_89 rfl ?_
      refine rw_inc dX9_deal_90 rfl (by decide) ?_
      refine rw_goto (tgt := 30) dX9_deal_93 (by decide) ?_
      exact rw_sub (rw_lc rfl (rw_lc rfl (rw_lc rfl rw_lz))) (ih (v3 + 1) q10.2 h)
set_option maxRecDepth 20000 in
set_option maxHeartbeats 1000000 in
theorem ct_X9_deal {w : WE} {M : Mem} {v1 : Int32} {out : Int32 × Mem} (h : f_X9_deal M v1 = some out) : Ct w 2 yX9_deal cX9_deal 7 (some .int) [.ref (bw_ad w 0), .int v1] M (bw_pi (out.1) out.2) := by
  refine Ct.of (own := RX9) rfl (by decide) (by intro v hv; simp only [List.mem_cons, List.not_mem_nil, or_false] at hv; rcases hv with rfl | rfl <;> first | rfl | exact bw_cat_rf _) (Nat.le_of_ble_eq_true rfl) ?_
  unfold f_X9_deal at h
  show RW w 2 0 0 0 0 cX9_deal RX9 7 (some .int) (bw_Z w (bw_pi (out.1) out.2)) 0 [(0, .ref (bw_ad w 0)), (1, .int v1)] [] M
  refine rw_iload_n dX9_deal_0 rfl rfl ?_
  refine rw_iconst (v := 1) dX9_deal_1 (by decide) ?_
  refine rw_bipush (v := 24) dX9_deal_2 (by decide) ?_
  refine rw_callS3 dX9_deal_4 ln_RX9_79 ms_X9_isWithin (ct_X9_isWithin rfl) (Nat.le_of_ble_eq_true rfl) (Nat.le_of_ble_eq_true rfl) (bw_kkz (fun z1 => ?_))
  refine rw_if_ne (tgt := 13) dX9_deal_7 (by decide) (fun c2 => ?_) (fun c2 => ?_)
  · have h := bw_if c2 h
    refine rw_iload_n dX9_deal_13 rfl rfl ?_
    refine rw_bipush (v := 24) dX9_deal_14 (by decide) ?_
    refine rw_aload_n dX9_deal_16 rfl rfl ?_
    refine rw_get dX9_deal_17 fl_RX9_10 (sh_x w) (bw_kl (by decide)) rfl ?_
    refine rw_get dX9_deal_20 fl_RX9_84 (sh_now w) (bw_kl (by decide)) rfl ?_
    refine rw_isub dX9_deal_23 ?_
    refine rw_mmin dX9_deal_24 ln_RX9_122 mm_min_s mm_i mm_min_c (Nat.le_of_ble_eq_true rfl) (Nat.le_of_ble_eq_true rfl) ?_
    obtain ⟨x3, hx3, h⟩ := bw_mlE h
    refine rw_ti hx3 ?_
    refine rw_istore_n dX9_deal_27 rfl (by decide) ?_
    refine rw_iconst (v := 0) dX9_deal_28 (by decide) ?_
    refine rw_istore_n dX9_deal_29 rfl (by decide) ?_
    exact rw_sub (rw_lc rfl (rw_lc rfl (rw_lc rfl rw_lz))) (th_X9_deal_L30 bw_fu (0 : Int32) M h)
  · have h := bw_it c2 h
    refine rw_ldc dX9_deal_10 cn_RX9_83 ?_
    have h := Option.some.inj h
    subst h
    exact rw_iret dX9_deal_12 ⟨rfl, rfl⟩
set_option maxRecDepth 20000 in
set_option maxHeartbeats 1000000 in
theorem ct_X9_seed {w : WE} {M : Mem} {v1 : Int32} {out : Int32 × Mem} (h : f_X9_seed M v1 = some out) : Ct w 0 yX9_seed cX9_seed 3 (some .int) [.ref (bw_ad w 0), .int v1] M (bw_pi (out.1) out.2) := by
  refine Ct.of (own := RX9) rfl (by decide) (by intro v hv; simp only [List.mem_cons, List.not_mem_nil, or_false] at hv; rcases hv with rfl | rfl <;> first | rfl | exact bw_cat_rf _) (Nat.le_of_ble_eq_true rfl) ?_
  unfold f_X9_seed at h
  show RW w 0 0 0 0 0 cX9_seed RX9 3 (some .int) (bw_Z w (bw_pi (out.1) out.2)) 0 [(0, .ref (bw_ad w 0)), (1, .int v1)] [] M
  refine rw_aload_n dX9_seed_0 rfl rfl ?_
  refine rw_get dX9_seed_1 fl_RX9_10 (sh_x w) (bw_kl (by decide)) rfl ?_
  refine rw_get dX9_seed_4 fl_RX9_132 (sh_now w) (bw_kl (by decide)) rfl ?_
  refine rw_istore_n dX9_seed_7 rfl (by decide) ?_
  refine rw_aload_n dX9_seed_8 rfl rfl ?_
  refine rw_get dX9_seed_9 fl_RX9_10 (sh_x w) (bw_kl (by decide)) rfl ?_
  refine rw_iload_n dX9_seed_12 rfl rfl ?_
  refine rw_puti dX9_seed_13 fl_RX9_132 fp_6_8 (sh_now w) (bw_kl (by decide)) (by decide) (fun _ => rfl) (fun _ => Nat.le_of_ble_eq_true rfl) ?_
  obtain ⟨M1, hM1, h⟩ := bw_mlE h
  refine rw_m hM1.symm ?_
  refine rw_iload_n dX9_seed_16 rfl rfl ?_
  have h := Option.some.inj h
  subst h
  exact rw_iret dX9_seed_17 ⟨rfl, rfl⟩
set_option maxRecDepth 20000 in
set_option maxHeartbeats 1000000 in
theorem th_X9_set_J68 {w : WE} {M : Mem} {v1 : Int32} {v2 : Int32} {out : Int32 × Mem} (h : f_X9_set_J68 M v1 v2 = some out) : RW w 1 0 0 0 0 cX9_set RX9 4 (some .int) (bw_Z w (bw_pi (out.1) out.2)) 68 [(0, .ref (bw_ad w 0)), (1, .int v1), (2, .int v2)] [] M := by
  unfold f_X9_set_J68 at h
  refine rw_iload_n dX9_set_68 rfl rfl ?_
  refine rw_iconst (v := 2) dX9_set_69 (by decide) ?_
  refine rw_icmp_ne (tgt := 103) dX9_set_70 (by decide) (fun c3 => ?_) (fun c3 => ?_)
  · have h := bw_if c3 h
    refine rw_ldc dX9_set_103 cn_RX9_83 ?_
    refine rw_istore_n dX9_set_105 rfl (by decide) ?_
    refine rw_iload_n dX9_set_106 rfl rfl ?_
    have h := Option.some.inj h
    subst h
    exact rw_iret dX9_set_107 ⟨rfl, rfl⟩
  · have h := bw_it c3 h
    refine rw_iload_n dX9_set_73 rfl rfl ?_
    refine rw_iconst (v := 1) dX9_set_74 (by decide) ?_
    refine rw_sipush (v := 999) dX9_set_75 (by decide) ?_
    refine rw_callS3 dX9_set_78 ln_RX9_79 ms_X9_isWithin (ct_X9_isWithin rfl) (Nat.le_of_ble_eq_true rfl) (Nat.le_of_ble_eq_true rfl) (bw_kkz (fun z4 => ?_))
    refine rw_if_eq (tgt := 103) dX9_set_81 (by decide) (fun c5 => ?_) (fun c5 => ?_)
    · have h := bw_it c5 h
      refine rw_ldc dX9_set_103 cn_RX9_83 ?_
      refine rw_istore_n dX9_set_105 rfl (by decide) ?_
      refine rw_iload_n dX9_set_106 rfl rfl ?_
      have h := Option.some.inj h
      subst h
      exact rw_iret dX9_set_107 ⟨rfl, rfl⟩
    · have h := bw_if c5 h
      refine rw_aload_n dX9_set_84 rfl rfl ?_
      refine rw_get dX9_set_85 fl_RX9_10 (sh_x w) (bw_kl (by decide)) rfl ?_
      refine rw_get dX9_set_88 fl_RX9_141 (sh_now w) (bw_kl (by decide)) rfl ?_
      refine rw_istore_n dX9_set_91 rfl (by decide) ?_
      refine rw_aload_n dX9_set_92 rfl rfl ?_
      refine rw_get dX9_set_93 fl_RX9_10 (sh_x w) (bw_kl (by decide)) rfl ?_
      refine rw_iload_n dX9_set_96 rfl rfl ?_
      refine rw_puti dX9_set_97 fl_RX9_141 fp_6_7 (sh_now w) (bw_kl (by decide)) (by decide) (fun _ => rfl) (fun _ => Nat.le_of_ble_eq_true rfl) ?_
      obtain ⟨M6, hM6, h⟩ := bw_mlE h
      refine rw_m hM6.symm ?_
      refine rw_goto (tgt := 106) dX9_set_100 (by decide) ?_
      refine rw_iload_n dX9_set_106 rfl rfl ?_
      have h := Option.some.inj h
      subst h
      exact rw_iret dX9_set_107 ⟨rfl, rfl⟩
set_option maxRecDepth 20000 in
set_option maxHeartbeats 1000000 in
theorem th_X9_set_J34 {w : WE} {M : Mem} {v1 : Int32} {v2 : Int32} {out : Int32 × Mem} (h : f_X9_set_J34 M v1 v2 = some out) : RW w 1 0 0 0 0 cX9_set RX9 4 (some .int) (bw_Z w (bw_pi (out.1) out.2)) 34 [(0, .ref (bw_ad w 0)), (1, .int v1), (2, .int v2)] [] M := by
  unfold f_X9_set_J34 at h
  refine rw_iload_n dX9_set_34 rfl rfl ?_
  refine rw_iconst (v := 1) dX9_set_35 (by decide) ?_
  refine rw_icmp_ne (tgt := 68) dX9_set_36 (by decide) (fun c2 => ?_) (fun c2 => ?_)
  · have h := bw_if c2 h
    exact rw_sub (rw_lc rfl (rw_lc rfl (rw_lc rfl rw_lz))) (th_X9_set_J68 h)
  · have h := bw_it c2 h
    refine rw_iload_n dX9_set_39 rfl rfl ?_
    refine rw_iconst (v := 0) dX9_set_40 (by decide) ?_
    refine rw_bipush (v := 9) dX9_set_41 (by decide) ?_
    refine rw_callS3 dX9_set_43 ln_RX9_79 ms_X9_isWithin (ct_X9_isWithin rfl) (Nat.le_of_ble_eq_true rfl) (Nat.le_of_ble_eq_true rfl) (bw_kkz (fun z7 => ?_))
    refine rw_if_eq (tgt := 68) dX9_set_46 (by decide) (fun c8 => ?_) (fun c8 => ?_)
    · have h := bw_it c8 h
      exact rw_sub (rw_lc rfl (rw_lc rfl (rw_lc rfl rw_lz))) (th_X9_set_J68 h)
    · have h := bw_if c8 h
      refine rw_aload_n dX9_set_49 rfl rfl ?_
      refine rw_get dX9_set_50 fl_RX9_10 (sh_x w) (bw_kl (by decide)) rfl ?_
      refine rw_get dX9_set_53 fl_RX9_138 (sh_now w) (bw_kl (by decide)) rfl ?_
      refine rw_istore_n dX9_set_56 rfl (by decide) ?_
      refine rw_aload_n dX9_set_57 rfl rfl ?_
      refine rw_get dX9_set_58 fl_RX9_10 (sh_x w) (bw_kl (by decide)) rfl ?_
      refine rw_iload_n dX9_set_61 rfl rfl ?_
      refine rw_puti dX9_set_62 fl_RX9_138 fp_6_6 (sh_now w) (bw_kl (by decide)) (by decide) (fun _ => rfl) (fun _ => Nat.le_of_ble_eq_true rfl) ?_
      obtain ⟨M9, hM9, h⟩ := bw_mlE h
      refine rw_m hM9.symm ?_
      refine rw_goto (tgt := 106) dX9_set_65 (by decide) ?_
      refine rw_iload_n dX9_set_106 rfl rfl ?_
      have h := Option.some.inj h
      subst h
      exact rw_iret dX9_set_107 ⟨rfl, rfl⟩
set_option maxRecDepth 20000 in
set_option maxHeartbeats 1000000 in
theorem ct_X9_set {w : WE} {M : Mem} {v1 : Int32} {v2 : Int32} {out : Int32 × Mem} (h : f_X9_set M v1 v2 = some out) : Ct w 1 yX9_set cX9_set 4 (some .int) [.ref (bw_ad w 0), .int v1, .int v2] M (bw_pi (out.1) out.2) := by
  refine Ct.of (own := RX9) rfl (by decide) (by intro v hv; simp only [List.mem_cons, List.not_mem_nil, or_false] at hv; rcases hv with rfl | rfl | rfl <;> first | rfl | exact bw_cat_rf _) (Nat.le_of_ble_eq_true rfl) ?_
  unfold f_X9_set at h
  show RW w 1 0 0 0 0 cX9_set RX9 4 (some .int) (bw_Z w (bw_pi (out.1) out.2)) 0 [(0, .ref (bw_ad w 0)), (1, .int v1), (2, .int v2)] [] M
  refine rw_iload_n dX9_set_0 rfl rfl ?_
  refine rw_if_ne (tgt := 34) dX9_set_1 (by decide) (fun c1 => ?_) (fun c1 => ?_)
  · have h := bw_if c1 h
    exact rw_sub (rw_lc rfl (rw_lc rfl (rw_lc rfl rw_lz))) (th_X9_set_J34 h)
  · have h := bw_it c1 h
    refine rw_iload_n dX9_set_4 rfl rfl ?_
    refine rw_iconst (v := 1) dX9_set_5 (by decide) ?_
    refine rw_sipush (v := 999) dX9_set_6 (by decide) ?_
    refine rw_callS3 dX9_set_9 ln_RX9_79 ms_X9_isWithin (ct_X9_isWithin rfl) (Nat.le_of_ble_eq_true rfl) (Nat.le_of_ble_eq_true rfl) (bw_kkz (fun z10 => ?_))
    refine rw_if_eq (tgt := 34) dX9_set_12 (by decide) (fun c11 => ?_) (fun c11 => ?_)
    · have h := bw_it c11 h
      exact rw_sub (rw_lc rfl (rw_lc rfl (rw_lc rfl rw_lz))) (th_X9_set_J34 h)
    · have h := bw_if c11 h
      refine rw_aload_n dX9_set_15 rfl rfl ?_
      refine rw_get dX9_set_16 fl_RX9_10 (sh_x w) (bw_kl (by decide)) rfl ?_
      refine rw_get dX9_set_19 fl_RX9_135 (sh_now w) (bw_kl (by decide)) rfl ?_
      refine rw_istore_n dX9_set_22 rfl (by decide) ?_
      refine rw_aload_n dX9_set_23 rfl rfl ?_
      refine rw_get dX9_set_24 fl_RX9_10 (sh_x w) (bw_kl (by decide)) rfl ?_
      refine rw_iload_n dX9_set_27 rfl rfl ?_
      refine rw_puti dX9_set_28 fl_RX9_135 fp_6_5 (sh_now w) (bw_kl (by decide)) (by decide) (fun _ => rfl) (fun _ => Nat.le_of_ble_eq_true rfl) ?_
      obtain ⟨M12, hM12, h⟩ := bw_mlE h
      refine rw_m hM12.symm ?_
      refine rw_goto (tgt := 106) dX9_set_31 (by decide) ?_
      refine rw_iload_n dX9_set_106 rfl rfl ?_
      have h := Option.some.inj h
      subst h
      exact rw_iret dX9_set_107 ⟨rfl, rfl⟩
set_option maxRecDepth 20000 in
set_option maxHeartbeats 1000000 in
theorem ct_X9_isKind {w : WE} {M : Mem} {v0 : Int32} {out : Int32} (h : f_X9_isKind v0 = out) : Ct w 1 yX9_isKind cX9_isKind 1 (some .boolean) [.int v0] M (bw_pz (out) M) := by
  refine Ct.of (own := RX9) rfl (by decide) (by intro v hv; rw [List.mem_singleton.mp hv]; first | rfl | exact bw_cat_rf _) (Nat.le_of_ble_eq_true rfl) ?_
  unfold f_X9_isKind at h
  show RW w 1 0 0 0 0 cX9_isKind RX9 1 (some .boolean) (bw_Z w (bw_pz (out) M)) 0 [(0, .int v0)] [] M
  refine rw_iload_n dX9_isKind_0 rfl rfl ?_
  refine rw_iconst (v := 0) dX9_isKind_1 (by decide) ?_
  refine rw_iconst (v := 5) dX9_isKind_2 (by decide) ?_
  refine rw_callS3 dX9_isKind_3 ln_RX9_79 ms_X9_isWithin (ct_X9_isWithin rfl) (Nat.le_of_ble_eq_true rfl) (Nat.le_of_ble_eq_true rfl) (bw_kkz (fun z1 => ?_))
  subst h
  exact rw_zret dX9_isKind_6 z1 ⟨rfl, rfl, z1⟩
set_option maxRecDepth 20000 in
set_option maxHeartbeats 1000000 in
theorem ct_X9_board {w : WE} {M : Mem} {v1 : Int32} {v2 : Int32} {v3 : Int32} {out : Int32 × Mem} (h : f_X9_board M v1 v2 v3 = some out) : Ct w 2 yX9_board cX9_board 6 (some .int) [.ref (bw_ad w 0), .int v1, .int v2, .int v3] M (bw_pi (out.1) out.2) := by
  refine Ct.of (own := RX9) rfl (by decide) (by intro v hv; simp only [List.mem_cons, List.not_mem_nil, or_false] at hv; rcases hv with rfl | rfl | rfl | rfl <;> first | rfl | exact bw_cat_rf _) (Nat.le_of_ble_eq_true rfl) ?_
  unfold f_X9_board at h
  show RW w 2 0 0 0 0 cX9_board RX9 6 (some .int) (bw_Z w (bw_pi (out.1) out.2)) 0 [(0, .ref (bw_ad w 0)), (1, .int v1), (2, .int v2), (3, .int v3)] [] M
  refine rw_iload_n dX9_board_0 rfl rfl ?_
  refine rw_callS1 dX9_board_1 ln_RX9_144 ms_X9_isKind (ct_X9_isKind rfl) (Nat.le_of_ble_eq_true rfl) (Nat.le_of_ble_eq_true rfl) (bw_kkz (fun z1 => ?_))
  refine rw_if_eq (tgt := 21) dX9_board_4 (by decide) (fun c2 => ?_) (fun c2 => ?_)
  · have h := bw_it c2 h
    refine rw_ldc dX9_board_21 cn_RX9_83 ?_
    have h := Option.some.inj h
    subst h
    exact rw_iret dX9_board_23 ⟨rfl, rfl⟩
  · have h := bw_if c2 h
    refine rw_iload_n dX9_board_7 rfl rfl ?_
    refine rw_if_lt (tgt := 21) dX9_board_8 (by decide) (fun c3 => ?_) (fun c3 => ?_)
    · have h := bw_it c3 h
      refine rw_ldc dX9_board_21 cn_RX9_83 ?_
      have h := Option.some.inj h
      subst h
      exact rw_iret dX9_board_23 ⟨rfl, rfl⟩
    · have h := bw_if c3 h
      refine rw_iload_n dX9_board_11 rfl rfl ?_
      refine rw_iconst (v := 0) dX9_board_12 (by decide) ?_
      refine rw_bipush (v := 99) dX9_board_13 (by decide) ?_
      refine rw_callS3 dX9_board_15 ln_RX9_79 ms_X9_isWithin (ct_X9_isWithin rfl) (Nat.le_of_ble_eq_true rfl) (Nat.le_of_ble_eq_true rfl) (bw_kkz (fun z4 => ?_))
      refine rw_if_ne (tgt := 24) dX9_board_18 (by decide) (fun c5 => ?_) (fun c5 => ?_)
      · have h := bw_if c5 h
        refine rw_iload_n dX9_board_24 rfl rfl ?_
        refine rw_bipush (v := 100) dX9_board_25 (by decide) ?_
        refine rw_idiv dX9_board_27 (by decide) ?_
        refine rw_istore dX9_board_28 (by decide) ?_
        refine rw_iload_n dX9_board_30 rfl rfl ?_
        refine rw_bipush (v := 100) dX9_board_31 (by decide) ?_
        refine rw_irem dX9_board_33 (by decide) ?_
        refine rw_istore dX9_board_34 (by decide) ?_
        refine rw_iload dX9_board_36 rfl ?_
        refine rw_iload dX9_board_38 rfl ?_
        refine rw_icmp_gt (tgt := 55) dX9_board_40 (by decide) (fun c6 => ?_) (fun c6 => ?_)
        · have h := bw_it c6 h
          refine rw_ldc dX9_board_55 cn_RX9_83 ?_
          have h := Option.some.inj h
          subst h
          exact rw_iret dX9_board_57 ⟨rfl, rfl⟩
        · have h := bw_if c6 h
          refine rw_aload_n dX9_board_43 rfl rfl ?_
          refine rw_get dX9_board_44 fl_RX9_10 (sh_x w) (bw_kl (by decide)) rfl ?_
          refine rw_iload dX9_board_47 rfl ?_
          refine rw_callV1 dX9_board_49 ln_RX9_93 mv_X6_hasBook (sh_now w) (bw_kl (by decide)) (ct_X6_hasBook (by decide) rfl) (Nat.le_of_ble_eq_true rfl) (Nat.le_of_ble_eq_true rfl) (bw_kkz (fun z7 => ?_))
          refine rw_if_ne (tgt := 58) dX9_board_52 (by decide) (fun c8 => ?_) (fun c8 => ?_)
          · have h := bw_if c8 h
            refine rw_aload_n dX9_board_58 rfl rfl ?_
            refine rw_get dX9_board_59 fl_RX9_10 (sh_x w) (bw_kl (by decide)) rfl ?_
            refine rw_get dX9_board_62 fl_RX9_147 (sh_now w) (bw_kl (by decide)) rfl ?_
            refine rw_bipush (v := 12) dX9_board_65 (by decide) ?_
            refine rw_icmp_lt (tgt := 73) dX9_board_67 (by decide) (fun c9 => ?_) (fun c9 => ?_)
            · have h := bw_it c9 h
              refine rw_aload_n dX9_board_73 rfl rfl ?_
              refine rw_get dX9_board_74 fl_RX9_10 (sh_x w) (bw_kl (by decide)) rfl ?_
              refine rw_iload_n dX9_board_77 rfl rfl ?_
              refine rw_iload dX9_board_78 rfl ?_
              refine rw_iload dX9_board_80 rfl ?_
              refine rw_iload_n dX9_board_82 rfl rfl ?_
              obtain ⟨q10, hq10, h⟩ := bw_bd h
              refine rw_callV4 dX9_board_83 ln_RX9_150 mv_X6_addBoard (sh_now w) (bw_kl (by decide)) (ct_X6_addBoard (by decide) hq10) (Nat.le_of_ble_eq_true rfl) (Nat.le_of_ble_eq_true rfl) (bw_kki ?_)
              have h := Option.some.inj h
              subst h
              exact rw_iret dX9_board_86 ⟨rfl, rfl⟩
            · have h := bw_if c9 h
              refine rw_ldc dX9_board_70 cn_RX9_88 ?_
              have h := Option.some.inj h
              subst h
              exact rw_iret dX9_board_72 ⟨rfl, rfl⟩
          · have h := bw_it c8 h
            refine rw_ldc dX9_board_55 cn_RX9_83 ?_
            have h := Option.some.inj h
            subst h
            exact rw_iret dX9_board_57 ⟨rfl, rfl⟩
      · have h := bw_it c5 h
        refine rw_ldc dX9_board_21 cn_RX9_83 ?_
        have h := Option.some.inj h
        subst h
        exact rw_iret dX9_board_23 ⟨rfl, rfl⟩
set_option maxRecDepth 20000 in
set_option maxHeartbeats 1000000 in
theorem ct_X9_told {w : WE} {M : Mem} {v1 : Int32} {v2 : Int32} {out : Int32} (h : f_X9_told M v1 v2 = some out) : Ct w 5 yX9_told cX9_told 4 (some .int) [.ref (bw_ad w 0), .int v1, .int v2] M (bw_pi (out) M) := by
  refine Ct.of (own := RX9) rfl (by decide) (by intro v hv; simp only [List.mem_cons, List.not_mem_nil, or_false] at hv; rcases hv with rfl | rfl | rfl <;> first | rfl | exact bw_cat_rf _) (Nat.le_of_ble_eq_true rfl) ?_
  unfold f_X9_told at h
  show RW w 5 0 0 0 0 cX9_told RX9 4 (some .int) (bw_Z w (bw_pi (out) M)) 0 [(0, .ref (bw_ad w 0)), (1, .int v1), (2, .int v2)] [] M
  refine rw_aload_n dX9_told_0 rfl rfl ?_
  refine rw_get dX9_told_1 fl_RX9_10 (sh_x w) (bw_kl (by decide)) rfl ?_
  refine rw_iload_n dX9_told_4 rfl rfl ?_
  refine rw_callV1 dX9_told_5 ln_RX9_154 mv_X6_hasBoard (sh_now w) (bw_kl (by decide)) (ct_X6_hasBoard (by decide) rfl) (Nat.le_of_ble_eq_true rfl) (Nat.le_of_ble_eq_true rfl) (bw_kkz (fun z1 => ?_))
  refine rw_if_ne (tgt := 14) dX9_told_8 (by decide) (fun c2 => ?_) (fun c2 => ?_)
  · have h := bw_if c2 h
    refine rw_aload_n dX9_told_14 rfl rfl ?_
    refine rw_get dX9_told_15 fl_RX9_10 (sh_x w) (bw_kl (by decide)) rfl ?_
    refine rw_get dX9_told_18 fl_RX9_157 (sh_now w) (bw_kl (by decide)) rfl ?_
    refine rw_iload_n dX9_told_21 rfl rfl ?_
    obtain ⟨g3, h⟩ := bw_gd h
    refine rw_aaldR dX9_told_22 (sh_now_boards w) rfl (bw_kl (by decide)) (bw_in g3) ?_
    refine rw_astore_n dX9_told_23 rfl (by decide) ?_
    refine rw_iload_n dX9_told_24 rfl rfl ?_
    refine rw_case (0 : Int32) (fun c4 => ?_) (fun c4 => ?_)
    · have h := bw_it c4 h
      refine rw_tabK (tgt := 72) dX9_told_25 c4 (by decide) (by decide) rfl (by decide) ?_
      refine rw_aload_n dX9_told_72 rfl rfl ?_
      refine rw_get dX9_told_73 fl_RX9_161 (shB (iB_n (bw_lt g3))) (klB (iB_n (bw_lt g3))) rfl ?_
      have h := Option.some.inj h
      subst h
      exact rw_iret dX9_told_76 ⟨rfl, rfl⟩
    · have h := bw_if c4 h
      refine rw_case (1 : Int32) (fun c5 => ?_) (fun c5 => ?_)
      · have h := bw_it c5 h
        refine rw_tabK (tgt := 77) dX9_told_25 c5 (by decide) (by decide) rfl (by decide) ?_
        refine rw_aload_n dX9_told_77 rfl rfl ?_
        refine rw_get dX9_told_78 fl_RX9_166 (shB (iB_n (bw_lt g3))) (klB (iB_n (bw_lt g3))) rfl ?_
        have h := Option.some.inj h
        subst h
        exact rw_iret dX9_told_81 ⟨rfl, rfl⟩
      · have h := bw_if c5 h
        refine rw_case (2 : Int32) (fun c6 => ?_) (fun c6 => ?_)
        · have h := bw_it c6 h
          refine rw_tabK (tgt := 82) dX9_told_25 c6 (by decide) (by decide) rfl (by decide) ?_
          refine rw_aload_n dX9_told_82 rfl rfl ?_
          refine rw_get dX9_told_83 fl_RX9_169 (shB (iB_n (bw_lt g3))) (klB (iB_n (bw_lt g3))) rfl ?_
          have h := Option.some.inj h
          subst h
          exact rw_iret dX9_told_86 ⟨rfl, rfl⟩
        · have h := bw_if c6 h
          refine rw_case (3 : Int32) (fun c7 => ?_) (fun c7 => ?_)
          · have h := bw_it c7 h
            refine rw_tabK (tgt := 87) dX9_told_25 c7 (by decide) (by decide) rfl (by decide) ?_
            refine rw_aload_n dX9_told_87 rfl rfl ?_
            refine rw_get dX9_told_88 fl_RX9_172 (shB (iB_n (bw_lt g3))) (klB (iB_n (bw_lt g3))) rfl ?_
            have h := Option.some.inj h
            subst h
            exact rw_iret dX9_told_91 ⟨rfl, rfl⟩
          · have h := bw_if c7 h
            refine rw_case (4 : Int32) (fun c8 => ?_) (fun c8 => ?_)
            · have h := bw_it c8 h
              refine rw_tabK (tgt := 92) dX9_told_25 c8 (by decide) (by decide) rfl (by decide) ?_
              refine rw_aload_n dX9_told_92 rfl rfl ?_
              refine rw_aload_n dX9_told_93 rfl rfl ?_
              refine rw_get dX9_told_94 fl_RX9_10 (sh_x w) (bw_kl (by decide)) rfl ?_
              obtain ⟨q9, hq9, h⟩ := bw_bd h
              refine rw_callV1 dX9_told_97 ln_RX9_175 mv_X0_wants (shB (iB_n (bw_lt g3))) (klB (iB_n (bw_lt g3))) (ct_X0_wants (iB_n (bw_lt g3)) (by decide) hq9) (Nat.le_of_ble_eq_true rfl) (Nat.le_of_ble_eq_true rfl) (bw_kki ?_)
              have h := Option.some.inj h
              subst h
              exact rw_iret dX9_told_100 ⟨rfl, rfl⟩
            · have h := bw_if c8 h
              refine rw_case (5 : Int32) (fun c10 => ?_) (fun c10 => ?_)
              · have h := bw_it c10 h
                refine rw_tabK (tgt := 101) dX9_told_25 c10 (by decide) (by decide) rfl (by decide) ?_
                refine rw_aload_n dX9_told_101 rfl rfl ?_
                refine rw_aload_n dX9_told_102 rfl rfl ?_
                refine rw_get dX9_told_103 fl_RX9_10 (sh_x w) (bw_kl (by decide)) rfl ?_
                obtain ⟨q11, hq11, h⟩ := bw_bd h
                refine rw_callV1 dX9_told_106 ln_RX9_179 mv_X0_takes (shB (iB_n (bw_lt g3))) (klB (iB_n (bw_lt g3))) (ct_X0_takes (iB_n (bw_lt g3)) (by decide) hq11) (Nat.le_of_ble_eq_true rfl) (Nat.le_of_ble_eq_true rfl) (bw_kki ?_)
                have h := Option.some.inj h
                subst h
                exact rw_iret dX9_told_109 ⟨rfl, rfl⟩
              · have h := bw_if c10 h
                refine rw_case (6 : Int32) (fun c12 => ?_) (fun c12 => ?_)
                · have h := bw_it c12 h
                  refine rw_tabK (tgt := 110) dX9_told_25 c12 (by decide) (by decide) rfl (by decide) ?_
                  refine rw_aload_n dX9_told_110 rfl rfl ?_
                  refine rw_callV0 dX9_told_111 ln_RX9_182 mv_X0_worth (shB (iB_n (bw_lt g3))) (klB (iB_n (bw_lt g3))) (ct_X0_worth (iB_n (bw_lt g3)) rfl) (Nat.le_of_ble_eq_true rfl) (Nat.le_of_ble_eq_true rfl) (bw_kki ?_)
                  have h := Option.some.inj h
                  subst h
                  exact rw_iret dX9_told_114 ⟨rfl, rfl⟩
                · have h := bw_if c12 h
                  refine rw_case (7 : Int32) (fun c13 => ?_) (fun c13 => ?_)
                  · have h := bw_it c13 h
                    refine rw_tabK (tgt := 115) dX9_told_25 c13 (by decide) (by decide) rfl (by decide) ?_
                    refine rw_aload_n dX9_told_115 rfl rfl ?_
                    refine rw_aload_n dX9_told_116 rfl rfl ?_
                    refine rw_get dX9_told_117 fl_RX9_10 (sh_x w) (bw_kl (by decide)) rfl ?_
                    obtain ⟨q14, hq14, h⟩ := bw_bd h
                    refine rw_callV1 dX9_told_120 ln_RX9_185 mv_X0_isGood (shB (iB_n (bw_lt g3))) (klB (iB_n (bw_lt g3))) (ct_X0_isGood (iB_n (bw_lt g3)) (by decide) hq14) (Nat.le_of_ble_eq_true rfl) (Nat.le_of_ble_eq_true rfl) (bw_kkz (fun z15 => ?_))
                    have key : RW w 5 0 0 0 0 cX9_told RX9 4 (some .int) (bw_Z w (bw_pi (out) M)) 131 [] [.int (if q14 = 0 then (0 : Int32) else (1 : Int32))] M := by
                      have h := Option.some.inj h
                      subst h
                      exact rw_iret dX9_told_131 ⟨rfl, rfl⟩
                    refine rw_if_eq (tgt := 130) dX9_told_123 (by decide) (fun c16 => ?_) (fun c16 => ?_)
                    · refine rw_iconst (v := 0) dX9_told_130 (by decide) ?_
                      simp only [if_pos c16] at key
                      exact rw_sub rw_lz key
                    · refine rw_iconst (v := 1) dX9_told_126 (by decide) ?_
                      refine rw_goto (tgt := 131) dX9_told_127 (by decide) ?_
                      simp only [if_neg c16] at key
                      exact rw_sub rw_lz key
                  · have h := bw_if c13 h
                    refine rw_tabD (tgt := 132) dX9_told_25 (by have := lv_neT (a := 0) c4 (by decide); have := lv_neT (a := 1) c5 (by decide); have := lv_neT (a := 2) c6 (by decide); have := lv_neT (a := 3) c7 (by decide); have := lv_neT (a := 4) c8 (by decide); have := lv_neT (a := 5) c10 (by decide); have := lv_neT (a := 6) c12 (by decide); have := lv_neT (a := 7) c13 (by decide); omega) (by decide) ?_
                    refine rw_ldc dX9_told_132 cn_RX9_83 ?_
                    have h := Option.some.inj h
                    subst h
                    exact rw_iret dX9_told_134 ⟨rfl, rfl⟩
  · have h := bw_it c2 h
    refine rw_ldc dX9_told_11 cn_RX9_83 ?_
    have h := Option.some.inj h
    subst h
    exact rw_iret dX9_told_13 ⟨rfl, rfl⟩
