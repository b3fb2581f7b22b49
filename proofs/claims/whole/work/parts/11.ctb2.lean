set_option maxRecDepth 20000 in
set_option maxHeartbeats 1000000 in
theorem th_X10_findCases_L10 {w : WE} {out : Mem} : ∀ (n : Nat) (v1 : Int32) (M : Mem), f_X10_findCases_L10 n v1 M = some out → RW w 2 0 0 0 0 cX10_findCases RX10 9 none (bw_Z w (bw_pv out)) 10 [(0, .ref (bw_ad w 93)), (1, .int v1)] [] M := by
  intro n
  induction n with
  | zero => intro v1 M h; cases h
  | succ n ih =>
    intro v1 M h
    rw [f_X10_findCases_L10] at h
    refine rw_iload_n dX10_findCases_10 rfl rfl ?_
    refine rw_aload_n dX10_findCases_11 rfl rfl ?_
    refine rw_get dX10_findCases_12 fl_RX10_206 (sh_m w) (bw_kl (by decide)) rfl ?_
    refine rw_icmp_gt (tgt := 39) dX10_findCases_15 (by decide) (fun c3 => ?_) (fun c3 => ?_)
    · have h := bw_it c3 h
      refine rw_iconst (v := 0) dX10_findCases_39 (by decide) ?_
      refine rw_istore_n dX10_findCases_40 rfl (by decide) ?_
      exact rw_sub (rw_lc rfl (rw_lc rfl rw_lz)) (th_X10_findCases_L41 bw_fu (0 : Int32) M h)
    · have h := bw_if c3 h
      refine rw_aload_n dX10_findCases_18 rfl rfl ?_
      refine rw_get dX10_findCases_19 fl_RX10_50 (sh_m w) (bw_kl (by decide)) rfl ?_
      refine rw_iload_n dX10_findCases_22 rfl rfl ?_
      refine rw_iload_n dX10_findCases_23 rfl rfl ?_
      have key : RW w 2 0 0 0 0 cX10_findCases RX10 9 none (bw_Z w (bw_pv out)) 32 [(0, .ref (bw_ad w 93)), (1, .int v1)] [.int (if v1 = 0 then (0 : Int32) else (-1 : Int32)), .int v1, .ref (bw_ad w 107)] M := by
        obtain ⟨g39, h⟩ := bw_gd h
        refine rw_iast dX10_findCases_32 (sh_m_used w) (bw_kl (by decide)) (bw_in g39) ?_
        obtain ⟨M40, hM40, h⟩ := bw_mlE h
        refine rw_m hM40.symm ?_
        refine rw_inc dX10_findCases_33 rfl (by decide) ?_
        refine rw_goto (tgt := 10) dX10_findCases_36 (by decide) ?_
        exact rw_sub (rw_lc rfl (rw_lc rfl rw_lz)) (ih (v1 + 1) M40 h)
      refine rw_if_ne (tgt := 31) dX10_findCases_24 (by decide) (fun c38 => ?_) (fun c38 => ?_)
      · refine rw_iconst (v := -1) dX10_findCases_31 (by decide) ?_
        simp only [if_neg c38] at key
        exact rw_sub (rw_lc rfl (rw_lc rfl rw_lz)) key
      · refine rw_iconst (v := 0) dX10_findCases_27 (by decide) ?_
        refine rw_goto (tgt := 32) dX10_findCases_28 (by decide) ?_
        simp only [if_pos c38] at key
        exact rw_sub (rw_lc rfl (rw_lc rfl rw_lz)) key
set_option maxRecDepth 20000 in
set_option maxHeartbeats 1000000 in
theorem ct_X10_findCases {w : WE} {M : Mem} {out : Mem} (h : f_X10_findCases M = some out) : Ct w 2 yX10_findCases cX10_findCases 9 none [.ref (bw_ad w 93)] M (bw_pv out) := by
  refine Ct.of (own := RX10) rfl (by decide) (by intro v hv; rw [List.mem_singleton.mp hv]; first | rfl | exact bw_cat_rf _) (Nat.le_of_ble_eq_true rfl) ?_
  unfold f_X10_findCases at h
  show RW w 2 0 0 0 0 cX10_findCases RX10 9 none (bw_Z w (bw_pv out)) 0 [(0, .ref (bw_ad w 93))] [] M
  refine rw_aload_n dX10_findCases_0 rfl rfl ?_
  obtain ⟨q1, hq1, h⟩ := bw_bd h
  refine rw_callV0 dX10_findCases_1 ln_RX10_222 mv_X10_asks (sh_m w) (bw_kl (by decide)) (ct_X10_asks hq1) (Nat.le_of_ble_eq_true rfl) (Nat.le_of_ble_eq_true rfl) (bw_kkv ?_)
  refine rw_aload_n dX10_findCases_4 rfl rfl ?_
  obtain ⟨q2, hq2, h⟩ := bw_bd h
  refine rw_callV0 dX10_findCases_5 ln_RX10_225 mv_X10_takesAll (sh_m w) (bw_kl (by decide)) (ct_X10_takesAll hq2) (Nat.le_of_ble_eq_true rfl) (Nat.le_of_ble_eq_true rfl) (bw_kkv ?_)
  refine rw_iconst (v := 0) dX10_findCases_8 (by decide) ?_
  refine rw_istore_n dX10_findCases_9 rfl (by decide) ?_
  exact rw_sub (rw_lc rfl (rw_lc rfl rw_lz)) (th_X10_findCases_L10 bw_fu (0 : Int32) q2 h)
set_option maxRecDepth 20000 in
set_option maxHeartbeats 1000000 in
theorem ct_X10_cases {w : WE} {M : Mem} {v1 : Int32} {out : Int32 × Mem} (h : f_X10_cases M v1 = some out) : Ct w 3 yX10_cases cX10_cases 2 (some .int) [.ref (bw_ad w 93), .int v1] M (bw_pi (out.1) out.2) := by
  refine Ct.of (own := RX10) rfl (by decide) (by intro v hv; simp only [List.mem_cons, List.not_mem_nil, or_false] at hv; rcases hv with rfl | rfl <;> first | rfl | exact bw_cat_rf _) (Nat.le_of_ble_eq_true rfl) ?_
  unfold f_X10_cases at h
  show RW w 3 0 0 0 0 cX10_cases RX10 2 (some .int) (bw_Z w (bw_pi (out.1) out.2)) 0 [(0, .ref (bw_ad w 93)), (1, .int v1)] [] M
  refine rw_iload_n dX10_cases_0 rfl rfl ?_
  refine rw_iconst (v := 0) dX10_cases_1 (by decide) ?_
  refine rw_iconst (v := 1) dX10_cases_2 (by decide) ?_
  refine rw_callS3 dX10_cases_3 ln_RX10_117 ms_X10_in (ct_X10_in rfl) (Nat.le_of_ble_eq_true rfl) (Nat.le_of_ble_eq_true rfl) (bw_kkz (fun z1 => ?_))
  refine rw_if_ne (tgt := 12) dX10_cases_6 (by decide) (fun c2 => ?_) (fun c2 => ?_)
  · have h := bw_if c2 h
    refine rw_aload_n dX10_cases_12 rfl rfl ?_
    obtain ⟨q3, hq3, h⟩ := bw_bd h
    refine rw_callV0 dX10_cases_13 ln_RX10_241 mv_X10_findCases (sh_m w) (bw_kl (by decide)) (ct_X10_findCases hq3) (Nat.le_of_ble_eq_true rfl) (Nat.le_of_ble_eq_true rfl) (bw_kkv ?_)
    refine rw_aload_n dX10_cases_16 rfl rfl ?_
    refine rw_get dX10_cases_17 fl_RX10_50 (sh_m w) (bw_kl (by decide)) rfl ?_
    refine rw_aload_n dX10_cases_20 rfl rfl ?_
    refine rw_get dX10_cases_21 fl_RX10_206 (sh_m w) (bw_kl (by decide)) rfl ?_
    obtain ⟨g4, h⟩ := bw_gd h
    refine rw_iald dX10_cases_24 (sh_m_used w) (bw_kl (by decide)) (bw_in g4) ?_
    refine rw_if_ge (tgt := 31) dX10_cases_25 (by decide) (fun c5 => ?_) (fun c5 => ?_)
    · have h := bw_it c5 h
      refine rw_iload_n dX10_cases_31 rfl rfl ?_
      have key : RW w 3 0 0 0 0 cX10_cases RX10 2 (some .int) (bw_Z w (bw_pi (out.1) out.2)) 64 [] [.int (if v1 = 0 then (q3 107 (q3 93 7).toNatClampNeg) / (1000 : Int32) else bw_rem (q3 107 (q3 93 7).toNatClampNeg) (1000 : Int32))] q3 := by
        have h := Option.some.inj h
        subst h
        exact rw_iret dX10_cases_64 ⟨rfl, rfl⟩
      refine rw_if_ne (tgt := 51) dX10_cases_32 (by decide) (fun c6 => ?_) (fun c6 => ?_)
      · refine rw_aload_n dX10_cases_51 rfl rfl ?_
        refine rw_get dX10_cases_52 fl_RX10_50 (sh_m w) (bw_kl (by decide)) rfl ?_
        refine rw_aload_n dX10_cases_55 rfl rfl ?_
        refine rw_get dX10_cases_56 fl_RX10_206 (sh_m w) (bw_kl (by decide)) rfl ?_
        refine rw_iald dX10_cases_59 (sh_m_used w) (bw_kl (by decide)) (bw_in g4) ?_
        refine rw_sipush (v := 1000) dX10_cases_60 (by decide) ?_
        refine rw_irem dX10_cases_63 (by decide) ?_
        simp only [if_neg c6] at key
        exact rw_sub rw_lz key
      · refine rw_aload_n dX10_cases_35 rfl rfl ?_
        refine rw_get dX10_cases_36 fl_RX10_50 (sh_m w) (bw_kl (by decide)) rfl ?_
        refine rw_aload_n dX10_cases_39 rfl rfl ?_
        refine rw_get dX10_cases_40 fl_RX10_206 (sh_m w) (bw_kl (by decide)) rfl ?_
        refine rw_iald dX10_cases_43 (sh_m_used w) (bw_kl (by decide)) (bw_in g4) ?_
        refine rw_sipush (v := 1000) dX10_cases_44 (by decide) ?_
        refine rw_idiv dX10_cases_47 (by decide) ?_
        refine rw_goto (tgt := 64) dX10_cases_48 (by decide) ?_
        simp only [if_pos c6] at key
        exact rw_sub rw_lz key
    · have h := bw_if c5 h
      refine rw_ldc dX10_cases_28 cn_RX10_145 ?_
      have h := Option.some.inj h
      subst h
      exact rw_iret dX10_cases_30 ⟨rfl, rfl⟩
  · have h := bw_it c2 h
    refine rw_ldc dX10_cases_9 cn_RX10_125 ?_
    have h := Option.some.inj h
    subst h
    exact rw_iret dX10_cases_11 ⟨rfl, rfl⟩
set_option maxRecDepth 20000 in
set_option maxHeartbeats 1000000 in
theorem th_X10_findUnlike_L17 {w : WE} {M : Mem} {v1 : Int32} {Z : Option Value → Heap → Prop} {out : Int32} : ∀ (n : Nat) (v2 : Int32) (v3 : Int32), f_X10_findUnlike_L17 M v1 n v2 v3 = some out → RW w 1 0 0 0 0 cX10_findUnlike RX10 4 none Z 53 [(0, .ref (bw_ad w 93)), (1, .int v1), (2, .int out)] [] M → RW w 1 0 0 0 0 cX10_findUnlike RX10 4 none Z 17 [(0, .ref (bw_ad w 93)), (1, .int v1), (2, .int v2), (3, .int v3)] [] M := by
  intro n
  induction n with
  | zero => intro v2 v3 h hk; cases h
  | succ n ih =>
    intro v2 v3 h hk
    rw [f_X10_findUnlike_L17] at h
    refine rw_iload_n dX10_findUnlike_17 rfl rfl ?_
    refine rw_aload_n dX10_findUnlike_18 rfl rfl ?_
    refine rw_get dX10_findUnlike_19 fl_RX10_9 (sh_m w) (bw_kl (by decide)) rfl ?_
    refine rw_iconst (v := 4) dX10_findUnlike_22 (by decide) ?_
    refine rw_iald dX10_findUnlike_23 (sh_m_now w) (bw_kl (by decide)) (bw_in (show bw_ib (4 : Int32) 1530 = true by decide)) ?_
    refine rw_icmp_ge (tgt := 53) dX10_findUnlike_24 (by decide) (fun c3 => ?_) (fun c3 => ?_)
    · have h := bw_it c3 h
      have h := Option.some.inj h
      subst h
      exact rw_sub (rw_lc rfl (rw_lc rfl (rw_lc rfl rw_lz))) hk
    · have h := bw_if c3 h
      refine rw_iload_n dX10_findUnlike_27 rfl rfl ?_
      refine rw_if_ne (tgt := 41) dX10_findUnlike_28 (by decide) (fun c4 => ?_) (fun c4 => ?_)
      · have h := bw_if c4 h
        refine rw_iconst (v := 1) dX10_findUnlike_41 (by decide) ?_
        refine rw_goto (tgt := 46) dX10_findUnlike_42 (by decide) ?_
        refine rw_istore_n dX10_findUnlike_46 rfl (by decide) ?_
        refine rw_inc dX10_findUnlike_47 rfl (by decide) ?_
        refine rw_goto (tgt := 17) dX10_findUnlike_50 (by decide) ?_
        exact rw_sub (rw_lc rfl (rw_lc rfl (rw_lc rfl (rw_lc rfl rw_lz)))) (ih (1 : Int32) (v3 + 1) h hk)
      · have h := bw_it c4 h
        refine rw_aload_n dX10_findUnlike_31 rfl rfl ?_
        refine rw_iload_n dX10_findUnlike_32 rfl rfl ?_
        refine rw_iconst (v := 0) dX10_findUnlike_33 (by decide) ?_
        obtain ⟨q5, hq5, h⟩ := bw_bd h
        refine rw_callV2 dX10_findUnlike_34 ln_RX10_134 mv_X10_book4 (sh_m w) (bw_kl (by decide)) (ct_X10_book4 hq5) (Nat.le_of_ble_eq_true rfl) (Nat.le_of_ble_eq_true rfl) (bw_kki ?_)
        refine rw_iload_n dX10_findUnlike_37 rfl rfl ?_
        have key : RW w 1 0 0 0 0 cX10_findUnlike RX10 4 none Z 46 [(0, .ref (bw_ad w 93)), (1, .int v1), (3, .int v3)] [.int (if q5 = v1 then (1 : Int32) else (0 : Int32))] M := by
          obtain ⟨x7, hx7, h⟩ := bw_mlE h
          refine rw_ti hx7 ?_
          refine rw_istore_n dX10_findUnlike_46 rfl (by decide) ?_
          refine rw_inc dX10_findUnlike_47 rfl (by decide) ?_
          refine rw_goto (tgt := 17) dX10_findUnlike_50 (by decide) ?_
          exact rw_sub (rw_lc rfl (rw_lc rfl (rw_lc rfl (rw_lc rfl rw_lz)))) (ih x7 (v3 + 1) h hk)
        refine rw_icmp_ne (tgt := 45) dX10_findUnlike_38 (by decide) (fun c6 => ?_) (fun c6 => ?_)
        · refine rw_iconst (v := 0) dX10_findUnlike_45 (by decide) ?_
          simp only [if_neg c6] at key
          exact rw_sub (rw_lc rfl (rw_lc rfl (rw_lc rfl rw_lz))) key
        · refine rw_iconst (v := 1) dX10_findUnlike_41 (by decide) ?_
          refine rw_goto (tgt := 46) dX10_findUnlike_42 (by decide) ?_
          simp only [if_pos c6] at key
          exact rw_sub (rw_lc rfl (rw_lc rfl (rw_lc rfl rw_lz))) key
set_option maxRecDepth 20000 in
set_option maxHeartbeats 1000000 in
theorem th_X10_findUnlike_L7 {w : WE} {out : Mem} : ∀ (n : Nat) (v1 : Int32) (M : Mem), f_X10_findUnlike_L7 n v1 M = some out → RW w 1 0 0 0 0 cX10_findUnlike RX10 4 none (bw_Z w (bw_pv out)) 7 [(0, .ref (bw_ad w 93)), (1, .int v1)] [] M := by
  intro n
  induction n with
  | zero => intro v1 M h; cases h
  | succ n ih =>
    intro v1 M h
    rw [f_X10_findUnlike_L7] at h
    refine rw_iload_n dX10_findUnlike_7 rfl rfl ?_
    refine rw_bipush (v := 100) dX10_findUnlike_8 (by decide) ?_
    refine rw_icmp_ge (tgt := 83) dX10_findUnlike_10 (by decide) (fun c2 => ?_) (fun c2 => ?_)
    · have h := bw_it c2 h
      have h := Option.some.inj h
      subst h
      exact rw_vret dX10_findUnlike_83 ⟨rfl, rfl⟩
    · have h := bw_if c2 h
      refine rw_iconst (v := 0) dX10_findUnlike_13 (by decide) ?_
      refine rw_istore_n dX10_findUnlike_14 rfl (by decide) ?_
      refine rw_iconst (v := 0) dX10_findUnlike_15 (by decide) ?_
      refine rw_istore_n dX10_findUnlike_16 rfl (by decide) ?_
      obtain ⟨q8, hq8, h⟩ := bw_bd h
      refine rw_sub (rw_lc rfl (rw_lc rfl (rw_lc rfl (rw_lc rfl rw_lz)))) (th_X10_findUnlike_L17 bw_fu (0 : Int32) (0 : Int32) hq8 ?_)
      refine rw_iload_n dX10_findUnlike_53 rfl rfl ?_
      refine rw_if_eq (tgt := 77) dX10_findUnlike_54 (by decide) (fun c9 => ?_) (fun c9 => ?_)
      · have h := bw_it c9 h
        refine rw_inc dX10_findUnlike_77 rfl (by decide) ?_
        refine rw_goto (tgt := 7) dX10_findUnlike_80 (by decide) ?_
        exact rw_sub (rw_lc rfl (rw_lc rfl rw_lz)) (ih (v1 + 1) M h)
      · have h := bw_if c9 h
        refine rw_aload_n dX10_findUnlike_57 rfl rfl ?_
        refine rw_get dX10_findUnlike_58 fl_RX10_53 (sh_m w) (bw_kl (by decide)) rfl ?_
        refine rw_aload_n dX10_findUnlike_61 rfl rfl ?_
        refine rw_get dX10_findUnlike_62 fl_RX10_244 (sh_m w) (bw_kl (by decide)) rfl ?_
        refine rw_iload_n dX10_findUnlike_65 rfl rfl ?_
        obtain ⟨g10, h⟩ := bw_gd h
        refine rw_iast dX10_findUnlike_66 (sh_m_unlike w) (bw_kl (by decide)) (bw_in g10) ?_
        obtain ⟨M11, hM11, h⟩ := bw_mlE h
        refine rw_m hM11.symm ?_
        refine rw_aload_n dX10_findUnlike_67 rfl rfl ?_
        refine rw_dup dX10_findUnlike_68 rfl ?_
        refine rw_get dX10_findUnlike_69 fl_RX10_244 (sh_m w) (bw_kl (by decide)) rfl ?_
        refine rw_iconst (v := 1) dX10_findUnlike_72 (by decide) ?_
        refine rw_iadd dX10_findUnlike_73 ?_
        refine rw_puti dX10_findUnlike_74 fl_RX10_244 fp_10_22 (sh_m w) (bw_kl (by decide)) (by decide) (fun _ => rfl) (fun _ => Nat.le_of_ble_eq_true rfl) ?_
        obtain ⟨M12, hM12, h⟩ := bw_mlE h
        refine rw_m hM12.symm ?_
        refine rw_inc dX10_findUnlike_77 rfl (by decide) ?_
        refine rw_goto (tgt := 7) dX10_findUnlike_80 (by decide) ?_
        exact rw_sub (rw_lc rfl (rw_lc rfl rw_lz)) (ih (v1 + 1) M12 h)
set_option maxRecDepth 20000 in
set_option maxHeartbeats 1000000 in
theorem ct_X10_findUnlike {w : WE} {M : Mem} {out : Mem} (h : f_X10_findUnlike M = some out) : Ct w 1 yX10_findUnlike cX10_findUnlike 4 none [.ref (bw_ad w 93)] M (bw_pv out) := by
  refine Ct.of (own := RX10) rfl (by decide) (by intro v hv; rw [List.mem_singleton.mp hv]; first | rfl | exact bw_cat_rf _) (Nat.le_of_ble_eq_true rfl) ?_
  unfold f_X10_findUnlike at h
  show RW w 1 0 0 0 0 cX10_findUnlike RX10 4 none (bw_Z w (bw_pv out)) 0 [(0, .ref (bw_ad w 93))] [] M
  refine rw_aload_n dX10_findUnlike_0 rfl rfl ?_
  refine rw_iconst (v := 0) dX10_findUnlike_1 (by decide) ?_
  refine rw_puti dX10_findUnlike_2 fl_RX10_244 fp_10_22 (sh_m w) (bw_kl (by decide)) (by decide) (fun _ => rfl) (fun _ => Nat.le_of_ble_eq_true rfl) ?_
  obtain ⟨M1, hM1, h⟩ := bw_mlE h
  refine rw_m hM1.symm ?_
  refine rw_iconst (v := 1) dX10_findUnlike_5 (by decide) ?_
  refine rw_istore_n dX10_findUnlike_6 rfl (by decide) ?_
  exact rw_sub (rw_lc rfl (rw_lc rfl rw_lz)) (th_X10_findUnlike_L7 bw_fu (1 : Int32) M1 h)
set_option maxRecDepth 20000 in
set_option maxHeartbeats 1000000 in
theorem th_X10_tries_L120 {w : WE} {out : Mem} : ∀ (n : Nat) (v5 : Int32) (M : Mem), f_X10_tries_L120 n v5 M = some out → RW w 4 0 0 0 0 cX10_tries RX10 6 none (bw_Z w (bw_pv out)) 120 [(0, .ref (bw_ad w 93)), (5, .int v5)] [] M := by
  intro n
  induction n with
  | zero => intro v5 M h; cases h
  | succ n ih =>
    intro v5 M h
    rw [f_X10_tries_L120] at h
    refine rw_iload dX10_tries_120 rfl ?_
    refine rw_iconst (v := 3) dX10_tries_122 (by decide) ?_
    refine rw_icmp_ge (tgt := 146) dX10_tries_123 (by decide) (fun c16 => ?_) (fun c16 => ?_)
    · have h := bw_it c16 h
      have h := Option.some.inj h
      subst h
      exact rw_vret dX10_tries_146 ⟨rfl, rfl⟩
    · have h := bw_if c16 h
      refine rw_aload_n dX10_tries_126 rfl rfl ?_
      refine rw_get dX10_tries_127 fl_RX10_56 (sh_m w) (bw_kl (by decide)) rfl ?_
      refine rw_iload dX10_tries_130 rfl ?_
      refine rw_aload_n dX10_tries_132 rfl rfl ?_
      refine rw_get dX10_tries_133 fl_RX10_29 (sh_m w) (bw_kl (by decide)) rfl ?_
      refine rw_iload dX10_tries_136 rfl ?_
      obtain ⟨g17, h⟩ := bw_gd h
      refine rw_iald dX10_tries_138 (sh_m_may w) (bw_kl (by decide)) (bw_in g17) ?_
      obtain ⟨g18, h⟩ := bw_gd h
      refine rw_iast dX10_tries_139 (sh_m_bestFew w) (bw_kl (by decide)) (bw_in g18) ?_
      obtain ⟨M19, hM19, h⟩ := bw_mlE h
      refine rw_m hM19.symm ?_
      refine rw_inc dX10_tries_140 rfl (by decide) ?_
      refine rw_goto (tgt := 120) dX10_tries_143 (by decide) ?_
      exact rw_sub (rw_lc rfl (rw_lc rfl rw_lz)) (ih (v5 + 1) M19 h)
set_option maxRecDepth 20000 in
set_option maxHeartbeats 1000000 in
theorem th_X10_tries_J111 {w : WE} {M : Mem} {v4 : Int32} {out : Mem} (h : f_X10_tries_J111 M v4 = some out) : RW w 4 0 0 0 0 cX10_tries RX10 6 none (bw_Z w (bw_pv out)) 111 [(0, .ref (bw_ad w 93)), (4, .int v4)] [] M := by
  unfold f_X10_tries_J111 at h
  refine rw_aload_n dX10_tries_111 rfl rfl ?_
  refine rw_iload dX10_tries_112 rfl ?_
  refine rw_puti dX10_tries_114 fl_RX10_247 fp_10_24 (sh_m w) (bw_kl (by decide)) (by decide) (fun _ => rfl) (fun _ => Nat.le_of_ble_eq_true rfl) ?_
  obtain ⟨M15, hM15, h⟩ := bw_mlE h
  refine rw_m hM15.symm ?_
  refine rw_iconst (v := 0) dX10_tries_117 (by decide) ?_
  refine rw_istore dX10_tries_118 (by decide) ?_
  exact rw_sub (rw_lc rfl (rw_lc rfl rw_lz)) (th_X10_tries_L120 bw_fu (0 : Int32) M15 h)
set_option maxRecDepth 20000 in
set_option maxHeartbeats 1000000 in
theorem th_X10_tries_J66 {w : WE} {M : Mem} {s1 : Int32} {s2 : Int32} {out : Mem} (h : f_X10_tries_J66 M s1 s2 = some out) : RW w 4 0 0 0 0 cX10_tries RX10 6 none (bw_Z w (bw_pv out)) 66 [(0, .ref (bw_ad w 93))] [.int s2, .int s1, .ref (bw_ad w 100)] M := by
  unfold f_X10_tries_J66 at h
  obtain ⟨g8, h⟩ := bw_gd h
  refine rw_iast dX10_tries_66 (sh_m_may w) (bw_kl (by decide)) (bw_in g8) ?_
  obtain ⟨M9, hM9, h⟩ := bw_mlE h
  refine rw_m hM9.symm ?_
  refine rw_aload_n dX10_tries_67 rfl rfl ?_
  refine rw_get dX10_tries_68 fl_RX10_29 (sh_m w) (bw_kl (by decide)) rfl ?_
  refine rw_iconst (v := 2) dX10_tries_71 (by decide) ?_
  refine rw_aload_n dX10_tries_72 rfl rfl ?_
  refine rw_get dX10_tries_73 fl_RX10_53 (sh_m w) (bw_kl (by decide)) rfl ?_
  refine rw_aload_n dX10_tries_76 rfl rfl ?_
  refine rw_get dX10_tries_77 fl_RX10_244 (sh_m w) (bw_kl (by decide)) rfl ?_
  refine rw_iconst (v := 1) dX10_tries_80 (by decide) ?_
  refine rw_isub dX10_tries_81 ?_
  obtain ⟨g10, h⟩ := bw_gd h
  refine rw_iald dX10_tries_82 (sh_m_unlike w) (bw_kl (by decide)) (bw_in g10) ?_
  refine rw_iast dX10_tries_83 (sh_m_may w) (bw_kl (by decide)) (bw_in (show bw_ib (2 : Int32) 6 = true by decide)) ?_
  obtain ⟨M11, hM11, h⟩ := bw_mlE h
  refine rw_m hM11.symm ?_
  refine rw_aload_n dX10_tries_84 rfl rfl ?_
  obtain ⟨q12, hq12, h⟩ := bw_bd h
  refine rw_callV0 dX10_tries_85 ln_RX10_228 mv_X10_parts (sh_m w) (bw_kl (by decide)) (ct_X10_parts hq12) (Nat.le_of_ble_eq_true rfl) (Nat.le_of_ble_eq_true rfl) (bw_kki ?_)
  refine rw_istore dX10_tries_88 (by decide) ?_
  refine rw_iload dX10_tries_90 rfl ?_
  refine rw_if_lt (tgt := 146) dX10_tries_92 (by decide) (fun c13 => ?_) (fun c13 => ?_)
  · have h := bw_it c13 h
    have h := Option.some.inj h
    subst h
    exact rw_vret dX10_tries_146 ⟨rfl, rfl⟩
  · have h := bw_if c13 h
    refine rw_aload_n dX10_tries_95 rfl rfl ?_
    refine rw_get dX10_tries_96 fl_RX10_247 (sh_m w) (bw_kl (by decide)) rfl ?_
    refine rw_if_lt (tgt := 111) dX10_tries_99 (by decide) (fun c14 => ?_) (fun c14 => ?_)
    · have h := bw_it c14 h
      exact rw_sub (rw_lc rfl (rw_lc rfl rw_lz)) (th_X10_tries_J111 h)
    · have h := bw_if c14 h
      refine rw_iload dX10_tries_102 rfl ?_
      refine rw_aload_n dX10_tries_104 rfl rfl ?_
      refine rw_get dX10_tries_105 fl_RX10_247 (sh_m w) (bw_kl (by decide)) rfl ?_
      refine rw_icmp_ge (tgt := 146) dX10_tries_108 (by decide) (fun c20 => ?_) (fun c20 => ?_)
      · have h := bw_it c20 h
        have h := Option.some.inj h
        subst h
        exact rw_vret dX10_tries_146 ⟨rfl, rfl⟩
      · have h := bw_if c20 h
        exact rw_sub (rw_lc rfl (rw_lc rfl rw_lz)) (th_X10_tries_J111 h)
set_option maxRecDepth 20000 in
set_option maxHeartbeats 1000000 in
theorem th_X10_tries_J35 {w : WE} {M : Mem} {v1 : Int32} {v3 : Int32} {s1 : Int32} {s2 : Int32} {out : Mem} (h : f_X10_tries_J35 M v1 v3 s1 s2 = some out) : RW w 4 0 0 0 0 cX10_tries RX10 6 none (bw_Z w (bw_pv out)) 35 [(0, .ref (bw_ad w 93)), (1, .int v1), (3, .int v3)] [.int s2, .int s1, .ref (bw_ad w 100)] M := by
  unfold f_X10_tries_J35 at h
  obtain ⟨g4, h⟩ := bw_gd h
  refine rw_iast dX10_tries_35 (sh_m_may w) (bw_kl (by decide)) (bw_in g4) ?_
  obtain ⟨M5, hM5, h⟩ := bw_mlE h
  refine rw_m hM5.symm ?_
  refine rw_aload_n dX10_tries_36 rfl rfl ?_
  refine rw_get dX10_tries_37 fl_RX10_29 (sh_m w) (bw_kl (by decide)) rfl ?_
  refine rw_iconst (v := 1) dX10_tries_40 (by decide) ?_
  refine rw_iload_n dX10_tries_41 rfl rfl ?_
  refine rw_iconst (v := 2) dX10_tries_42 (by decide) ?_
  refine rw_icmp_ne (tgt := 60) dX10_tries_43 (by decide) (fun c6 => ?_) (fun c6 => ?_)
  · have h := bw_if c6 h
    refine rw_aload_n dX10_tries_60 rfl rfl ?_
    refine rw_get dX10_tries_61 fl_RX10_53 (sh_m w) (bw_kl (by decide)) rfl ?_
    refine rw_iload_n dX10_tries_64 rfl rfl ?_
    obtain ⟨g7, h⟩ := bw_gd h
    refine rw_iald dX10_tries_65 (sh_m_unlike w) (bw_kl (by decide)) (bw_in g7) ?_
    exact rw_sub (rw_lc rfl rw_lz) (th_X10_tries_J66 h)
  · have h := bw_it c6 h
    refine rw_aload_n dX10_tries_46 rfl rfl ?_
    refine rw_get dX10_tries_47 fl_RX10_53 (sh_m w) (bw_kl (by decide)) rfl ?_
    refine rw_aload_n dX10_tries_50 rfl rfl ?_
    refine rw_get dX10_tries_51 fl_RX10_244 (sh_m w) (bw_kl (by decide)) rfl ?_
    refine rw_iconst (v := 1) dX10_tries_54 (by decide) ?_
    refine rw_isub dX10_tries_55 ?_
    obtain ⟨g21, h⟩ := bw_gd h
    refine rw_iald dX10_tries_56 (sh_m_unlike w) (bw_kl (by decide)) (bw_in g21) ?_
    refine rw_goto (tgt := 66) dX10_tries_57 (by decide) ?_
    exact rw_sub (rw_lc rfl rw_lz) (th_X10_tries_J66 h)
set_option maxRecDepth 20000 in
set_option maxHeartbeats 1000000 in
theorem ct_X10_tries {w : WE} {M : Mem} {v1 : Int32} {v2 : Int32} {v3 : Int32} {out : Mem} (h : f_X10_tries M v1 v2 v3 = some out) : Ct w 4 yX10_tries cX10_tries 6 none [.ref (bw_ad w 93), .int v1, .int v2, .int v3] M (bw_pv out) := by
  refine Ct.of (own := RX10) rfl (by decide) (by intro v hv; simp only [List.mem_cons, List.not_mem_nil, or_false] at hv; rcases hv with rfl | rfl | rfl | rfl <;> first | rfl | exact bw_cat_rf _) (Nat.le_of_ble_eq_true rfl) ?_
  unfold f_X10_tries at h
  show RW w 4 0 0 0 0 cX10_tries RX10 6 none (bw_Z w (bw_pv out)) 0 [(0, .ref (bw_ad w 93)), (1, .int v1), (2, .int v2), (3, .int v3)] [] M
  refine rw_aload_n dX10_tries_0 rfl rfl ?_
  refine rw_iload_n dX10_tries_1 rfl rfl ?_
  refine rw_puti dX10_tries_2 fl_RX10_194 fp_10_10 (sh_m w) (bw_kl (by decide)) (by decide) (fun _ => rfl) (fun _ => Nat.le_of_ble_eq_true rfl) ?_
  obtain ⟨M1, hM1, h⟩ := bw_mlE h
  refine rw_m hM1.symm ?_
  refine rw_aload_n dX10_tries_5 rfl rfl ?_
  refine rw_get dX10_tries_6 fl_RX10_29 (sh_m w) (bw_kl (by decide)) rfl ?_
  refine rw_iconst (v := 0) dX10_tries_9 (by decide) ?_
  refine rw_iload_n dX10_tries_10 rfl rfl ?_
  refine rw_iconst (v := 1) dX10_tries_11 (by decide) ?_
  refine rw_icmp_ne (tgt := 29) dX10_tries_12 (by decide) (fun c2 => ?_) (fun c2 => ?_)
  · have h := bw_if c2 h
    refine rw_aload_n dX10_tries_29 rfl rfl ?_
    refine rw_get dX10_tries_30 fl_RX10_53 (sh_m w) (bw_kl (by decide)) rfl ?_
    refine rw_iload_n dX10_tries_33 rfl rfl ?_
    obtain ⟨g3, h⟩ := bw_gd h
    refine rw_iald dX10_tries_34 (sh_m_unlike w) (bw_kl (by decide)) (bw_in g3) ?_
    exact rw_sub (rw_lc rfl (rw_lc rfl (rw_lc rfl rw_lz))) (th_X10_tries_J35 h)
  · have h := bw_it c2 h
    refine rw_aload_n dX10_tries_15 rfl rfl ?_
    refine rw_get dX10_tries_16 fl_RX10_53 (sh_m w) (bw_kl (by decide)) rfl ?_
    refine rw_aload_n dX10_tries_19 rfl rfl ?_
    refine rw_get dX10_tries_20 fl_RX10_244 (sh_m w) (bw_kl (by decide)) rfl ?_
    refine rw_iconst (v := 1) dX10_tries_23 (by decide) ?_
    refine rw_isub dX10_tries_24 ?_
    obtain ⟨g22, h⟩ := bw_gd h
    refine rw_iald dX10_tries_25 (sh_m_unlike w) (bw_kl (by decide)) (bw_in g22) ?_
    refine rw_goto (tgt := 35) dX10_tries_26 (by decide) ?_
    exact rw_sub (rw_lc rfl (rw_lc rfl (rw_lc rfl rw_lz))) (th_X10_tries_J35 h)
set_option maxRecDepth 20000 in
set_option maxHeartbeats 1000000 in
theorem th_X10_few_L96 {w : WE} {v1 : Int32} {v2 : Int32} {v3 : Int32} {v4 : Int32} {Z : Option Value → Heap → Prop} {out : Mem} : ∀ (n : Nat) (v5 : Int32) (M : Mem), f_X10_few_L96 v1 v2 v3 v4 n v5 M = some out → RW w 5 0 0 0 0 cX10_few RX10 6 (some .int) Z 122 [(0, .ref (bw_ad w 93)), (1, .int v1), (2, .int v2), (3, .int v3), (4, .int v4)] [] out → RW w 5 0 0 0 0 cX10_few RX10 6 (some .int) Z 96 [(0, .ref (bw_ad w 93)), (1, .int v1), (2, .int v2), (3, .int v3), (4, .int v4), (5, .int v5)] [] M := by
  intro n
  induction n with
  | zero => intro v5 M h hk; cases h
  | succ n ih =>
    intro v5 M h hk
    rw [f_X10_few_L96] at h
    refine rw_iload dX10_few_96 rfl ?_
    refine rw_iload_n dX10_few_98 rfl rfl ?_
    refine rw_icmp_ge (tgt := 122) dX10_few_99 (by decide) (fun c19 => ?_) (fun c19 => ?_)
    · have h := bw_it c19 h
      have h := Option.some.inj h
      subst h
      exact rw_sub (rw_lc rfl (rw_lc rfl (rw_lc rfl (rw_lc rfl (rw_lc rfl rw_lz))))) hk
    · have h := bw_if c19 h
      refine rw_iload_n dX10_few_102 rfl rfl ?_
      refine rw_iconst (v := 3) dX10_few_103 (by decide) ?_
      refine rw_icmp_ne (tgt := 122) dX10_few_104 (by decide) (fun c20 => ?_) (fun c20 => ?_)
      · have h := bw_if c20 h
        have h := Option.some.inj h
        subst h
        exact rw_sub (rw_lc rfl (rw_lc rfl (rw_lc rfl (rw_lc rfl (rw_lc rfl rw_lz))))) hk
      · have h := bw_it c20 h
        refine rw_aload_n dX10_few_107 rfl rfl ?_
        refine rw_iconst (v := 3) dX10_few_108 (by decide) ?_
        refine rw_iload dX10_few_109 rfl ?_
        refine rw_iload dX10_few_111 rfl ?_
        obtain ⟨q21, hq21, h⟩ := bw_bd h
        refine rw_callV3 dX10_few_113 ln_RX10_253 mv_X10_tries (sh_m w) (bw_kl (by decide)) (ct_X10_tries hq21) (Nat.le_of_ble_eq_true rfl) (Nat.le_of_ble_eq_true rfl) (bw_kkv ?_)
        refine rw_inc dX10_few_116 rfl (by decide) ?_
        refine rw_goto (tgt := 96) dX10_few_119 (by decide) ?_
        exact rw_sub (rw_lc rfl (rw_lc rfl (rw_lc rfl (rw_lc rfl (rw_lc rfl (rw_lc rfl rw_lz)))))) (ih (v5 + 1) q21 h hk)
set_option maxRecDepth 20000 in
set_option maxHeartbeats 1000000 in
theorem th_X10_few_L66 {w : WE} {v1 : Int32} {v2 : Int32} {v3 : Int32} {out : Int32 × Mem} : ∀ (n : Nat) (v4 : Int32) (M : Mem), f_X10_few_L66 v1 v2 v3 n v4 M = some out → RW w 5 0 0 0 0 cX10_few RX10 6 (some .int) (bw_Z w (bw_pi (out.1) out.2)) 66 [(0, .ref (bw_ad w 93)), (1, .int v1), (2, .int v2), (3, .int v3), (4, .int v4)] [] M := by
  intro n
  induction n with
  | zero => intro v4 M h; cases h
  | succ n ih =>
    intro v4 M h
    rw [f_X10_few_L66] at h
    refine rw_iload dX10_few_66 rfl ?_
    refine rw_iload_n dX10_few_68 rfl rfl ?_
    refine rw_icmp_ge (tgt := 128) dX10_few_69 (by decide) (fun c10 => ?_) (fun c10 => ?_)
    · have h := bw_it c10 h
      refine rw_aload_n dX10_few_128 rfl rfl ?_
      refine rw_get dX10_few_129 fl_RX10_247 (sh_m w) (bw_kl (by decide)) rfl ?_
      refine rw_if_ge (tgt := 138) dX10_few_132 (by decide) (fun c11 => ?_) (fun c11 => ?_)
      · have h := bw_it c11 h
        refine rw_iload_n dX10_few_138 rfl rfl ?_
        refine rw_if_ge (tgt := 149) dX10_few_139 (by decide) (fun c12 => ?_) (fun c12 => ?_)
        · have h := bw_it c12 h
          refine rw_aload_n dX10_few_149 rfl rfl ?_
          refine rw_get dX10_few_150 fl_RX10_56 (sh_m w) (bw_kl (by decide)) rfl ?_
          refine rw_iload_n dX10_few_153 rfl rfl ?_
          obtain ⟨g13, h⟩ := bw_gd h
          refine rw_iald dX10_few_154 (sh_m_bestFew w) (bw_kl (by decide)) (bw_in g13) ?_
          have h := Option.some.inj h
          subst h
          exact rw_iret dX10_few_155 ⟨rfl, rfl⟩
        · have h := bw_if c12 h
          refine rw_aload_n dX10_few_142 rfl rfl ?_
          refine rw_get dX10_few_143 fl_RX10_247 (sh_m w) (bw_kl (by decide)) rfl ?_
          refine rw_goto (tgt := 155) dX10_few_146 (by decide) ?_
          have h := Option.some.inj h
          subst h
          exact rw_iret dX10_few_155 ⟨rfl, rfl⟩
      · have h := bw_if c11 h
        refine rw_ldc dX10_few_135 cn_RX10_145 ?_
        have h := Option.some.inj h
        subst h
        exact rw_iret dX10_few_137 ⟨rfl, rfl⟩
    · have h := bw_if c10 h
      refine rw_iload_n dX10_few_72 rfl rfl ?_
      refine rw_iconst (v := 1) dX10_few_73 (by decide) ?_
      refine rw_icmp_le (tgt := 128) dX10_few_74 (by decide) (fun c14 => ?_) (fun c14 => ?_)
      · have h := bw_it c14 h
        refine rw_aload_n dX10_few_128 rfl rfl ?_
        refine rw_get dX10_few_129 fl_RX10_247 (sh_m w) (bw_kl (by decide)) rfl ?_
        refine rw_if_ge (tgt := 138) dX10_few_132 (by decide) (fun c15 => ?_) (fun c15 => ?_)
        · have h := bw_it c15 h
          refine rw_iload_n dX10_few_138 rfl rfl ?_
          refine rw_if_ge (tgt := 149) dX10_few_139 (by decide) (fun c16 => ?_) (fun c16 => ?_)
          · have h := bw_it c16 h
            refine rw_aload_n dX10_few_149 rfl rfl ?_
            refine rw_get dX10_few_150 fl_RX10_56 (sh_m w) (bw_kl (by decide)) rfl ?_
            refine rw_iload_n dX10_few_153 rfl rfl ?_
            obtain ⟨g17, h⟩ := bw_gd h
            refine rw_iald dX10_few_154 (sh_m_bestFew w) (bw_kl (by decide)) (bw_in g17) ?_
            have h := Option.some.inj h
            subst h
            exact rw_iret dX10_few_155 ⟨rfl, rfl⟩
          · have h := bw_if c16 h
            refine rw_aload_n dX10_few_142 rfl rfl ?_
            refine rw_get dX10_few_143 fl_RX10_247 (sh_m w) (bw_kl (by decide)) rfl ?_
            refine rw_goto (tgt := 155) dX10_few_146 (by decide) ?_
            have h := Option.some.inj h
            subst h
            exact rw_iret dX10_few_155 ⟨rfl, rfl⟩
        · have h := bw_if c15 h
          refine rw_ldc dX10_few_135 cn_RX10_145 ?_
          have h := Option.some.inj h
          subst h
          exact rw_iret dX10_few_137 ⟨rfl, rfl⟩
      · have h := bw_if c14 h
        refine rw_iload_n dX10_few_77 rfl rfl ?_
        refine rw_iconst (v := 2) dX10_few_78 (by decide) ?_
        refine rw_icmp_ne (tgt := 90) dX10_few_79 (by decide) (fun c18 => ?_) (fun c18 => ?_)
        · have h := bw_if c18 h
          refine rw_iload dX10_few_90 rfl ?_
          refine rw_iconst (v := 1) dX10_few_92 (by decide) ?_
          refine rw_iadd dX10_few_93 ?_
          refine rw_istore dX10_few_94 (by decide) ?_
          obtain ⟨q22, hq22, h⟩ := bw_bd h
          refine rw_sub (rw_lc rfl (rw_lc rfl (rw_lc rfl (rw_lc rfl (rw_lc rfl (rw_lc rfl rw_lz)))))) (th_X10_few_L96 bw_fu (v4 + (1 : Int32)) M hq22 ?_)
          refine rw_inc dX10_few_122 rfl (by decide) ?_
          refine rw_goto (tgt := 66) dX10_few_125 (by decide) ?_
          exact rw_sub (rw_lc rfl (rw_lc rfl (rw_lc rfl (rw_lc rfl (rw_lc rfl rw_lz))))) (ih (v4 + 1) q22 h)
        · have h := bw_it c18 h
          refine rw_aload_n dX10_few_82 rfl rfl ?_
          refine rw_iconst (v := 2) dX10_few_83 (by decide) ?_
          refine rw_iload dX10_few_84 rfl ?_
          refine rw_iconst (v := 0) dX10_few_86 (by decide) ?_
          obtain ⟨q23, hq23, h⟩ := bw_bd h
          refine rw_callV3 dX10_few_87 ln_RX10_253 mv_X10_tries (sh_m w) (bw_kl (by decide)) (ct_X10_tries hq23) (Nat.le_of_ble_eq_true rfl) (Nat.le_of_ble_eq_true rfl) (bw_kkv ?_)
          refine rw_iload dX10_few_90 rfl ?_
          refine rw_iconst (v := 1) dX10_few_92 (by decide) ?_
          refine rw_iadd dX10_few_93 ?_
          refine rw_istore dX10_few_94 (by decide) ?_
          obtain ⟨q24, hq24, h⟩ := bw_bd h
          refine rw_sub (rw_lc rfl (rw_lc rfl (rw_lc rfl (rw_lc rfl (rw_lc rfl (rw_lc rfl rw_lz)))))) (th_X10_few_L96 bw_fu (v4 + (1 : Int32)) q23 hq24 ?_)
          refine rw_inc dX10_few_122 rfl (by decide) ?_
          refine rw_goto (tgt := 66) dX10_few_125 (by decide) ?_
          exact rw_sub (rw_lc rfl (rw_lc rfl (rw_lc rfl (rw_lc rfl (rw_lc rfl rw_lz))))) (ih (v4 + 1) q24 h)
set_option maxRecDepth 20000 in
set_option maxHeartbeats 1000000 in
theorem th_X10_few_J63 {w : WE} {M : Mem} {v1 : Int32} {v2 : Int32} {v3 : Int32} {out : Int32 × Mem} (h : f_X10_few_J63 M v1 v2 v3 = some out) : RW w 5 0 0 0 0 cX10_few RX10 6 (some .int) (bw_Z w (bw_pi (out.1) out.2)) 63 [(0, .ref (bw_ad w 93)), (1, .int v1), (2, .int v2), (3, .int v3)] [] M := by
  unfold f_X10_few_J63 at h
  refine rw_iconst (v := 0) dX10_few_63 (by decide) ?_
  refine rw_istore dX10_few_64 (by decide) ?_
  exact rw_sub (rw_lc rfl (rw_lc rfl (rw_lc rfl (rw_lc rfl (rw_lc rfl rw_lz))))) (th_X10_few_L66 bw_fu (0 : Int32) M h)
set_option maxRecDepth 20000 in
set_option maxHeartbeats 1000000 in
theorem ct_X10_few {w : WE} {M : Mem} {v1 : Int32} {v2 : Int32} {out : Int32 × Mem} (h : f_X10_few M v1 v2 = some out) : Ct w 5 yX10_few cX10_few 6 (some .int) [.ref (bw_ad w 93), .int v1, .int v2] M (bw_pi (out.1) out.2) := by
  refine Ct.of (own := RX10) rfl (by decide) (by intro v hv; simp only [List.mem_cons, List.not_mem_nil, or_false] at hv; rcases hv with rfl | rfl | rfl <;> first | rfl | exact bw_cat_rf _) (Nat.le_of_ble_eq_true rfl) ?_
  unfold f_X10_few at h
  show RW w 5 0 0 0 0 cX10_few RX10 6 (some .int) (bw_Z w (bw_pi (out.1) out.2)) 0 [(0, .ref (bw_ad w 93)), (1, .int v1), (2, .int v2)] [] M
  refine rw_iload_n dX10_few_0 rfl rfl ?_
  refine rw_iconst (v := 1) dX10_few_1 (by decide) ?_
  refine rw_iconst (v := 3) dX10_few_2 (by decide) ?_
  refine rw_callS3 dX10_few_3 ln_RX10_117 ms_X10_in (ct_X10_in rfl) (Nat.le_of_ble_eq_true rfl) (Nat.le_of_ble_eq_true rfl) (bw_kkz (fun z1 => ?_))
  refine rw_if_eq (tgt := 20) dX10_few_6 (by decide) (fun c2 => ?_) (fun c2 => ?_)
  · have h := bw_it c2 h
    refine rw_ldc dX10_few_20 cn_RX10_125 ?_
    have h := Option.some.inj h
    subst h
    exact rw_iret dX10_few_22 ⟨rfl, rfl⟩
  · have h := bw_if c2 h
    refine rw_iload_n dX10_few_9 rfl rfl ?_
    refine rw_iconst (v := -1) dX10_few_10 (by decide) ?_
    refine rw_iload_n dX10_few_11 rfl rfl ?_
    refine rw_iconst (v := 1) dX10_few_12 (by decide) ?_
    refine rw_isub dX10_few_13 ?_
    refine rw_callS3 dX10_few_14 ln_RX10_117 ms_X10_in (ct_X10_in rfl) (Nat.le_of_ble_eq_true rfl) (Nat.le_of_ble_eq_true rfl) (bw_kkz (fun z3 => ?_))
    refine rw_if_ne (tgt := 23) dX10_few_17 (by decide) (fun c4 => ?_) (fun c4 => ?_)
    · have h := bw_if c4 h
      refine rw_aload_n dX10_few_23 rfl rfl ?_
      obtain ⟨q5, hq5, h⟩ := bw_bd h
      refine rw_callV0 dX10_few_24 ln_RX10_222 mv_X10_asks (sh_m w) (bw_kl (by decide)) (ct_X10_asks hq5) (Nat.le_of_ble_eq_true rfl) (Nat.le_of_ble_eq_true rfl) (bw_kkv ?_)
      refine rw_aload_n dX10_few_27 rfl rfl ?_
      obtain ⟨q6, hq6, h⟩ := bw_bd h
      refine rw_callV0 dX10_few_28 ln_RX10_225 mv_X10_takesAll (sh_m w) (bw_kl (by decide)) (ct_X10_takesAll hq6) (Nat.le_of_ble_eq_true rfl) (Nat.le_of_ble_eq_true rfl) (bw_kkv ?_)
      refine rw_aload_n dX10_few_31 rfl rfl ?_
      obtain ⟨q7, hq7, h⟩ := bw_bd h
      refine rw_callV0 dX10_few_32 ln_RX10_250 mv_X10_findUnlike (sh_m w) (bw_kl (by decide)) (ct_X10_findUnlike hq7) (Nat.le_of_ble_eq_true rfl) (Nat.le_of_ble_eq_true rfl) (bw_kkv ?_)
      refine rw_aload_n dX10_few_35 rfl rfl ?_
      refine rw_iconst (v := -1) dX10_few_36 (by decide) ?_
      refine rw_puti dX10_few_37 fl_RX10_247 fp_10_24 (sh_m w) (bw_kl (by decide)) (by decide) (fun _ => rfl) (fun _ => Nat.le_of_ble_eq_true rfl) ?_
      obtain ⟨M8, hM8, h⟩ := bw_mlE h
      refine rw_m hM8.symm ?_
      refine rw_aload_n dX10_few_40 rfl rfl ?_
      refine rw_get dX10_few_41 fl_RX10_244 (sh_m w) (bw_kl (by decide)) rfl ?_
      refine rw_iconst (v := 1) dX10_few_44 (by decide) ?_
      refine rw_isub dX10_few_45 ?_
      refine rw_istore_n dX10_few_46 rfl (by decide) ?_
      refine rw_iload_n dX10_few_47 rfl rfl ?_
      refine rw_iconst (v := 1) dX10_few_48 (by decide) ?_
      refine rw_icmp_ne (tgt := 63) dX10_few_49 (by decide) (fun c9 => ?_) (fun c9 => ?_)
      · have h := bw_if c9 h
        exact rw_sub (rw_lc rfl (rw_lc rfl (rw_lc rfl (rw_lc rfl rw_lz)))) (th_X10_few_J63 h)
      · have h := bw_it c9 h
        refine rw_iload_n dX10_few_52 rfl rfl ?_
        refine rw_if_lt (tgt := 63) dX10_few_53 (by decide) (fun c25 => ?_) (fun c25 => ?_)
        · have h := bw_it c25 h
          exact rw_sub (rw_lc rfl (rw_lc rfl (rw_lc rfl (rw_lc rfl rw_lz)))) (th_X10_few_J63 h)
        · have h := bw_if c25 h
          refine rw_aload_n dX10_few_56 rfl rfl ?_
          refine rw_iconst (v := 1) dX10_few_57 (by decide) ?_
          refine rw_iconst (v := 0) dX10_few_58 (by decide) ?_
          refine rw_iconst (v := 0) dX10_few_59 (by decide) ?_
          obtain ⟨q26, hq26, h⟩ := bw_bd h
          refine rw_callV3 dX10_few_60 ln_RX10_253 mv_X10_tries (sh_m w) (bw_kl (by decide)) (ct_X10_tries hq26) (Nat.le_of_ble_eq_true rfl) (Nat.le_of_ble_eq_true rfl) (bw_kkv ?_)
          exact rw_sub (rw_lc rfl (rw_lc rfl (rw_lc rfl (rw_lc rfl rw_lz)))) (th_X10_few_J63 h)
    · have h := bw_it c4 h
      refine rw_ldc dX10_few_20 cn_RX10_125 ?_
      have h := Option.some.inj h
      subst h
      exact rw_iret dX10_few_22 ⟨rfl, rfl⟩
set_option maxRecDepth 20000 in
set_option maxHeartbeats 1000000 in
theorem th_X10_settleSome_L7 {w : WE} {v1 : Int32} {v2 : Int32} {out : Int32 × Mem} : ∀ (n : Nat) (v3 : Int32) (M : Mem), f_X10_settleSome_L7 v1 v2 n v3 M = some out → RW w 4 0 0 0 0 cX10_settleSome RX10 4 (some .int) (bw_Z w (bw_pi (out.1) out.2)) 7 [(0, .ref (bw_ad w 93)), (1, .int v1), (2, .int v2), (3, .int v3)] [] M := by
  intro n
  induction n with
  | zero => intro v3 M h; cases h
  | succ n ih =>
    intro v3 M h
    rw [f_X10_settleSome_L7] at h
    refine rw_iload_n dX10_settleSome_7 rfl rfl ?_
    refine rw_aload_n dX10_settleSome_8 rfl rfl ?_
    refine rw_get dX10_settleSome_9 fl_RX10_9 (sh_m w) (bw_kl (by decide)) rfl ?_
    refine rw_iconst (v := 4) dX10_settleSome_12 (by decide) ?_
    refine rw_iald dX10_settleSome_13 (sh_m_now w) (bw_kl (by decide)) (bw_in (show bw_ib (4 : Int32) 1530 = true by decide)) ?_
    refine rw_icmp_ge (tgt := 59) dX10_settleSome_14 (by decide) (fun c2 => ?_) (fun c2 => ?_)
    · have h := bw_it c2 h
      refine rw_aload_n dX10_settleSome_59 rfl rfl ?_
      obtain ⟨q3, hq3, h⟩ := bw_bd h
      refine rw_callV0 dX10_settleSome_60 ln_RX10_228 mv_X10_parts (sh_m w) (bw_kl (by decide)) (ct_X10_parts hq3) (Nat.le_of_ble_eq_true rfl) (Nat.le_of_ble_eq_true rfl) (bw_kki ?_)
      have h := Option.some.inj h
      subst h
      exact rw_iret dX10_settleSome_63 ⟨rfl, rfl⟩
    · have h := bw_if c2 h
      refine rw_aload_n dX10_settleSome_17 rfl rfl ?_
      refine rw_iload_n dX10_settleSome_18 rfl rfl ?_
      refine rw_iconst (v := 0) dX10_settleSome_19 (by decide) ?_
      obtain ⟨q4, hq4, h⟩ := bw_bd h
      refine rw_callV2 dX10_settleSome_20 ln_RX10_134 mv_X10_book4 (sh_m w) (bw_kl (by decide)) (ct_X10_book4 hq4) (Nat.le_of_ble_eq_true rfl) (Nat.le_of_ble_eq_true rfl) (bw_kki ?_)
      refine rw_iload_n dX10_settleSome_23 rfl rfl ?_
      have key : RW w 4 0 0 0 0 cX10_settleSome RX10 4 (some .int) (bw_Z w (bw_pi (out.1) out.2)) 32 [(0, .ref (bw_ad w 93)), (1, .int v1), (2, .int v2), (3, .int v3)] [.int (if q4 < v1 then (0 : Int32) else (1 : Int32))] M := by
        refine rw_iload_n dX10_settleSome_32 rfl rfl ?_
        refine rw_icmp_ne (tgt := 53) dX10_settleSome_33 (by decide) (fun c6 => ?_) (fun c6 => ?_)
        · have h := bw_if c6 h
          refine rw_inc dX10_settleSome_53 rfl (by decide) ?_
          refine rw_goto (tgt := 7) dX10_settleSome_56 (by decide) ?_
          exact rw_sub (rw_lc rfl (rw_lc rfl (rw_lc rfl (rw_lc rfl rw_lz)))) (ih (v3 + 1) M h)
        · have h := bw_it c6 h
          refine rw_aload_n dX10_settleSome_36 rfl rfl ?_
          refine rw_aload_n dX10_settleSome_37 rfl rfl ?_
          refine rw_iload_n dX10_settleSome_38 rfl rfl ?_
          refine rw_iconst (v := 0) dX10_settleSome_39 (by decide) ?_
          obtain ⟨q7, hq7, h⟩ := bw_bd h
          refine rw_callV2 dX10_settleSome_40 ln_RX10_134 mv_X10_book4 (sh_m w) (bw_kl (by decide)) (ct_X10_book4 hq7) (Nat.le_of_ble_eq_true rfl) (Nat.le_of_ble_eq_true rfl) (bw_kki ?_)
          refine rw_aload_n dX10_settleSome_43 rfl rfl ?_
          refine rw_iload_n dX10_settleSome_44 rfl rfl ?_
          refine rw_iconst (v := 1) dX10_settleSome_45 (by decide) ?_
          obtain ⟨q8, hq8, h⟩ := bw_bd h
          refine rw_callV2 dX10_settleSome_46 ln_RX10_134 mv_X10_book4 (sh_m w) (bw_kl (by decide)) (ct_X10_book4 hq8) (Nat.le_of_ble_eq_true rfl) (Nat.le_of_ble_eq_true rfl) (bw_kki ?_)
          refine rw_iconst (v := 0) dX10_settleSome_49 (by decide) ?_
          obtain ⟨q9, hq9, h⟩ := bw_bd h
          refine rw_callV3 dX10_settleSome_50 ln_RX10_209 mv_X10_takesBook (sh_m w) (bw_kl (by decide)) (ct_X10_takesBook hq9) (Nat.le_of_ble_eq_true rfl) (Nat.le_of_ble_eq_true rfl) (bw_kkv ?_)
          refine rw_inc dX10_settleSome_53 rfl (by decide) ?_
          refine rw_goto (tgt := 7) dX10_settleSome_56 (by decide) ?_
          exact rw_sub (rw_lc rfl (rw_lc rfl (rw_lc rfl (rw_lc rfl rw_lz)))) (ih (v3 + 1) q9 h)
      refine rw_icmp_lt (tgt := 31) dX10_settleSome_24 (by decide) (fun c5 => ?_) (fun c5 => ?_)
      · refine rw_iconst (v := 0) dX10_settleSome_31 (by decide) ?_
        simp only [if_pos c5] at key
        exact rw_sub (rw_lc rfl (rw_lc rfl (rw_lc rfl (rw_lc rfl rw_lz)))) key
      · refine rw_iconst (v := 1) dX10_settleSome_27 (by decide) ?_
        refine rw_goto (tgt := 32) dX10_settleSome_28 (by decide) ?_
        simp only [if_neg c5] at key
        exact rw_sub (rw_lc rfl (rw_lc rfl (rw_lc rfl (rw_lc rfl rw_lz)))) key
set_option maxRecDepth 20000 in
set_option maxHeartbeats 1000000 in
theorem ct_X10_settleSome {w : WE} {M : Mem} {v1 : Int32} {v2 : Int32} {out : Int32 × Mem} (h : f_X10_settleSome M v1 v2 = some out) : Ct w 4 yX10_settleSome cX10_settleSome 4 (some .int) [.ref (bw_ad w 93), .int v1, .int v2] M (bw_pi (out.1) out.2) := by
  refine Ct.of (own := RX10) rfl (by decide) (by intro v hv; simp only [List.mem_cons, List.not_mem_nil, or_false] at hv; rcases hv with rfl | rfl | rfl <;> first | rfl | exact bw_cat_rf _) (Nat.le_of_ble_eq_true rfl) ?_
  unfold f_X10_settleSome at h
  show RW w 4 0 0 0 0 cX10_settleSome RX10 4 (some .int) (bw_Z w (bw_pi (out.1) out.2)) 0 [(0, .ref (bw_ad w 93)), (1, .int v1), (2, .int v2)] [] M
  refine rw_aload_n dX10_settleSome_0 rfl rfl ?_
  refine rw_iconst (v := 0) dX10_settleSome_1 (by decide) ?_
  refine rw_puti dX10_settleSome_2 fl_RX10_206 fp_10_7 (sh_m w) (bw_kl (by decide)) (by decide) (fun _ => rfl) (fun _ => Nat.le_of_ble_eq_true rfl) ?_
  obtain ⟨M1, hM1, h⟩ := bw_mlE h
  refine rw_m hM1.symm ?_
  refine rw_iconst (v := 0) dX10_settleSome_5 (by decide) ?_
  refine rw_istore_n dX10_settleSome_6 rfl (by decide) ?_
  exact rw_sub (rw_lc rfl (rw_lc rfl (rw_lc rfl (rw_lc rfl rw_lz)))) (th_X10_settleSome_L7 bw_fu (0 : Int32) M1 h)
set_option maxRecDepth 20000 in
set_option maxHeartbeats 1000000 in
theorem th_X10_walksFrom_L11 {w : WE} {v1 : Int32} {v3 : Int32} {out : Int32 × Mem} : ∀ (n : Nat) (v2 : Int32) (v4 : Int32) (M : Mem), f_X10_walksFrom_L11 v1 v3 n v2 v4 M = some out → RW w 2 0 0 0 0 cX10_walksFrom RX10 5 (some .int) (bw_Z w (bw_pi (out.1) out.2)) 11 [(0, .ref (bw_ad w 93)), (1, .int v1), (2, .int v2), (3, .int v3), (4, .int v4)] [] M := by
  intro n
  induction n with
  | zero => intro v2 v4 M h; cases h
  | succ n ih =>
    intro v2 v4 M h
    rw [f_X10_walksFrom_L11] at h
    refine rw_iload dX10_walksFrom_11 rfl ?_
    refine rw_aload_n dX10_walksFrom_13 rfl rfl ?_
    refine rw_get dX10_walksFrom_14 fl_RX10_9 (sh_m w) (bw_kl (by decide)) rfl ?_
    refine rw_iconst (v := 4) dX10_walksFrom_17 (by decide) ?_
    refine rw_iald dX10_walksFrom_18 (sh_m_now w) (bw_kl (by decide)) (bw_in (show bw_ib (4 : Int32) 1530 = true by decide)) ?_
    refine rw_icmp_ge (tgt := 88) dX10_walksFrom_19 (by decide) (fun c2 => ?_) (fun c2 => ?_)
    · have h := bw_it c2 h
      refine rw_iload_n dX10_walksFrom_88 rfl rfl ?_
      have h := Option.some.inj h
      subst h
      exact rw_iret dX10_walksFrom_89 ⟨rfl, rfl⟩
    · have h := bw_if c2 h
      refine rw_aload_n dX10_walksFrom_22 rfl rfl ?_
      refine rw_iload dX10_walksFrom_23 rfl ?_
      refine rw_iconst (v := 0) dX10_walksFrom_25 (by decide) ?_
      obtain ⟨q3, hq3, h⟩ := bw_bd h
      refine rw_callV2 dX10_walksFrom_26 ln_RX10_134 mv_X10_book4 (sh_m w) (bw_kl (by decide)) (ct_X10_book4 hq3) (Nat.le_of_ble_eq_true rfl) (Nat.le_of_ble_eq_true rfl) (bw_kki ?_)
      refine rw_iload_n dX10_walksFrom_29 rfl rfl ?_
      refine rw_icmp_lt (tgt := 82) dX10_walksFrom_30 (by decide) (fun c4 => ?_) (fun c4 => ?_)
      · have h := bw_it c4 h
        refine rw_inc dX10_walksFrom_82 rfl (by decide) ?_
        refine rw_goto (tgt := 11) dX10_walksFrom_85 (by decide) ?_
        exact rw_sub (rw_lc rfl (rw_lc rfl (rw_lc rfl (rw_lc rfl (rw_lc rfl rw_lz))))) (ih v2 (v4 + 1) M h)
      · have h := bw_if c4 h
        refine rw_aload_n dX10_walksFrom_33 rfl rfl ?_
        refine rw_get dX10_walksFrom_34 fl_RX10_81 (sh_m w) (bw_kl (by decide)) rfl ?_
        refine rw_iconst (v := 0) dX10_walksFrom_37 (by decide) ?_
        refine rw_aload_n dX10_walksFrom_38 rfl rfl ?_
        refine rw_iload dX10_walksFrom_39 rfl ?_
        refine rw_iconst (v := 0) dX10_walksFrom_41 (by decide) ?_
        obtain ⟨q5, hq5, h⟩ := bw_bd h
        refine rw_callV2 dX10_walksFrom_42 ln_RX10_134 mv_X10_book4 (sh_m w) (bw_kl (by decide)) (ct_X10_book4 hq5) (Nat.le_of_ble_eq_true rfl) (Nat.le_of_ble_eq_true rfl) (bw_kki ?_)
        refine rw_iast dX10_walksFrom_45 (sh_m_facts w) (bw_kl (by decide)) (bw_in (show bw_ib (0 : Int32) 4 = true by decide)) ?_
        obtain ⟨M6, hM6, h⟩ := bw_mlE h
        refine rw_m hM6.symm ?_
        refine rw_aload_n dX10_walksFrom_46 rfl rfl ?_
        refine rw_get dX10_walksFrom_47 fl_RX10_81 (sh_m w) (bw_kl (by decide)) rfl ?_
        refine rw_iconst (v := 1) dX10_walksFrom_50 (by decide) ?_
        refine rw_aload_n dX10_walksFrom_51 rfl rfl ?_
        refine rw_iload dX10_walksFrom_52 rfl ?_
        refine rw_iconst (v := 2) dX10_walksFrom_54 (by decide) ?_
        obtain ⟨q7, hq7, h⟩ := bw_bd h
        refine rw_callV2 dX10_walksFrom_55 ln_RX10_134 mv_X10_book4 (sh_m w) (bw_kl (by decide)) (ct_X10_book4 hq7) (Nat.le_of_ble_eq_true rfl) (Nat.le_of_ble_eq_true rfl) (bw_kki ?_)
        refine rw_iast dX10_walksFrom_58 (sh_m_facts w) (bw_kl (by decide)) (bw_in (show bw_ib (1 : Int32) 4 = true by decide)) ?_
        obtain ⟨M8, hM8, h⟩ := bw_mlE h
        refine rw_m hM8.symm ?_
        refine rw_iload_n dX10_walksFrom_59 rfl rfl ?_
        refine rw_iload_n dX10_walksFrom_60 rfl rfl ?_
        refine rw_if_ge (tgt := 68) dX10_walksFrom_61 (by decide) (fun c9 => ?_) (fun c9 => ?_)
        · have h := bw_it c9 h
          refine rw_aload_n dX10_walksFrom_68 rfl rfl ?_
          refine rw_iload_n dX10_walksFrom_69 rfl rfl ?_
          obtain ⟨q10, hq10, h⟩ := bw_bd h
          refine rw_callV1 dX10_walksFrom_70 ln_RX10_200 mv_X10_worksOut (sh_m w) (bw_kl (by decide)) (ct_X10_worksOut hq10) (Nat.le_of_ble_eq_true rfl) (Nat.le_of_ble_eq_true rfl) (bw_kki ?_)
          refine rw_iconst (v := 0) dX10_walksFrom_73 (by decide) ?_
          refine rw_sipush (v := 999) dX10_walksFrom_74 (by decide) ?_
          refine rw_callS3 dX10_walksFrom_77 ln_RX10_203 ms_X10_within (ct_X10_within rfl) (Nat.le_of_ble_eq_true rfl) (Nat.le_of_ble_eq_true rfl) (bw_kki ?_)
          refine rw_iadd dX10_walksFrom_80 ?_
          obtain ⟨x11, hx11, h⟩ := bw_mlE h
          refine rw_ti hx11 ?_
          refine rw_istore_n dX10_walksFrom_81 rfl (by decide) ?_
          refine rw_inc dX10_walksFrom_82 rfl (by decide) ?_
          refine rw_goto (tgt := 11) dX10_walksFrom_85 (by decide) ?_
          exact rw_sub (rw_lc rfl (rw_lc rfl (rw_lc rfl (rw_lc rfl (rw_lc rfl rw_lz))))) (ih x11 (v4 + 1) q10.2 h)
        · have h := bw_if c9 h
          refine rw_iconst (v := 5) dX10_walksFrom_64 (by decide) ?_
          refine rw_goto (tgt := 80) dX10_walksFrom_65 (by decide) ?_
          refine rw_iadd dX10_walksFrom_80 ?_
          refine rw_istore_n dX10_walksFrom_81 rfl (by decide) ?_
          refine rw_inc dX10_walksFrom_82 rfl (by decide) ?_
          refine rw_goto (tgt := 11) dX10_walksFrom_85 (by decide) ?_
          exact rw_sub (rw_lc rfl (rw_lc rfl (rw_lc rfl (rw_lc rfl (rw_lc rfl rw_lz))))) (ih (v2 + (5 : Int32)) (v4 + 1) M8 h)
set_option maxRecDepth 20000 in
set_option maxHeartbeats 1000000 in
theorem ct_X10_walksFrom {w : WE} {M : Mem} {v1 : Int32} {out : Int32 × Mem} (h : f_X10_walksFrom M v1 = some out) : Ct w 2 yX10_walksFrom cX10_walksFrom 5 (some .int) [.ref (bw_ad w 93), .int v1] M (bw_pi (out.1) out.2) := by
  refine Ct.of (own := RX10) rfl (by decide) (by intro v hv; simp only [List.mem_cons, List.not_mem_nil, or_false] at hv; rcases hv with rfl | rfl <;> first | rfl | exact bw_cat_rf _) (Nat.le_of_ble_eq_true rfl) ?_
  unfold f_X10_walksFrom at h
  show RW w 2 0 0 0 0 cX10_walksFrom RX10 5 (some .int) (bw_Z w (bw_pi (out.1) out.2)) 0 [(0, .ref (bw_ad w 93)), (1, .int v1)] [] M
  refine rw_iconst (v := 0) dX10_walksFrom_0 (by decide) ?_
  refine rw_istore_n dX10_walksFrom_1 rfl (by decide) ?_
  refine rw_aload_n dX10_walksFrom_2 rfl rfl ?_
  refine rw_iconst (v := 1) dX10_walksFrom_3 (by decide) ?_
  obtain ⟨q1, hq1, h⟩ := bw_bd h
  refine rw_callV1 dX10_walksFrom_4 ln_RX10_197 mv_X10_counts (sh_m w) (bw_kl (by decide)) (ct_X10_counts hq1) (Nat.le_of_ble_eq_true rfl) (Nat.le_of_ble_eq_true rfl) (bw_kki ?_)
  refine rw_istore_n dX10_walksFrom_7 rfl (by decide) ?_
  refine rw_iconst (v := 0) dX10_walksFrom_8 (by decide) ?_
  refine rw_istore dX10_walksFrom_9 (by decide) ?_
  exact rw_sub (rw_lc rfl (rw_lc rfl (rw_lc rfl (rw_lc rfl (rw_lc rfl rw_lz))))) (th_X10_walksFrom_L11 bw_fu (0 : Int32) (0 : Int32) M h)
set_option maxRecDepth 20000 in
set_option maxHeartbeats 1000000 in
theorem ct_X10_apartFrom {w : WE} {M : Mem} {v1 : Int32} {out : Int32 × Mem} (h : f_X10_apartFrom M v1 = some out) : Ct w 5 yX10_apartFrom cX10_apartFrom 4 (some .int) [.ref (bw_ad w 93), .int v1] M (bw_pi (out.1) out.2) := by
  refine Ct.of (own := RX10) rfl (by decide) (by intro v hv; simp only [List.mem_cons, List.not_mem_nil, or_false] at hv; rcases hv with rfl | rfl <;> first | rfl | exact bw_cat_rf _) (Nat.le_of_ble_eq_true rfl) ?_
  unfold f_X10_apartFrom at h
  show RW w 5 0 0 0 0 cX10_apartFrom RX10 4 (some .int) (bw_Z w (bw_pi (out.1) out.2)) 0 [(0, .ref (bw_ad w 93)), (1, .int v1)] [] M
  refine rw_aload_n dX10_apartFrom_0 rfl rfl ?_
  refine rw_iload_n dX10_apartFrom_1 rfl rfl ?_
  refine rw_iconst (v := 1) dX10_apartFrom_2 (by decide) ?_
  obtain ⟨q1, hq1, h⟩ := bw_bd h
  refine rw_callV2 dX10_apartFrom_3 ln_RX10_256 mv_X10_settleSome (sh_m w) (bw_kl (by decide)) (ct_X10_settleSome hq1) (Nat.le_of_ble_eq_true rfl) (Nat.le_of_ble_eq_true rfl) (bw_kki ?_)
  refine rw_istore_n dX10_apartFrom_6 rfl (by decide) ?_
  refine rw_aload_n dX10_apartFrom_7 rfl rfl ?_
  refine rw_iload_n dX10_apartFrom_8 rfl rfl ?_
  refine rw_iconst (v := 0) dX10_apartFrom_9 (by decide) ?_
  obtain ⟨q2, hq2, h⟩ := bw_bd h
  refine rw_callV2 dX10_apartFrom_10 ln_RX10_256 mv_X10_settleSome (sh_m w) (bw_kl (by decide)) (ct_X10_settleSome hq2) (Nat.le_of_ble_eq_true rfl) (Nat.le_of_ble_eq_true rfl) (bw_kki ?_)
  refine rw_istore_n dX10_apartFrom_13 rfl (by decide) ?_
  refine rw_iload_n dX10_apartFrom_14 rfl rfl ?_
  refine rw_if_lt (tgt := 22) dX10_apartFrom_15 (by decide) (fun c3 => ?_) (fun c3 => ?_)
  · have h := bw_it c3 h
    refine rw_iconst (v := -1) dX10_apartFrom_22 (by decide) ?_
    refine rw_goto (tgt := 35) dX10_apartFrom_23 (by decide) ?_
    have h := Option.some.inj h
    subst h
    exact rw_iret dX10_apartFrom_35 ⟨rfl, rfl⟩
  · have h := bw_if c3 h
    refine rw_iload_n dX10_apartFrom_18 rfl rfl ?_
    refine rw_if_ge (tgt := 26) dX10_apartFrom_19 (by decide) (fun c4 => ?_) (fun c4 => ?_)
    · have h := bw_it c4 h
      refine rw_iload_n dX10_apartFrom_26 rfl rfl ?_
      refine rw_iload_n dX10_apartFrom_27 rfl rfl ?_
      refine rw_iadd dX10_apartFrom_28 ?_
      refine rw_aload_n dX10_apartFrom_29 rfl rfl ?_
      refine rw_iload_n dX10_apartFrom_30 rfl rfl ?_
      obtain ⟨q5, hq5, h⟩ := bw_bd h
      refine rw_callV1 dX10_apartFrom_31 ln_RX10_260 mv_X10_walksFrom (sh_m w) (bw_kl (by decide)) (ct_X10_walksFrom hq5) (Nat.le_of_ble_eq_true rfl) (Nat.le_of_ble_eq_true rfl) (bw_kki ?_)
      refine rw_iadd dX10_apartFrom_34 ?_
      have h := Option.some.inj h
      subst h
      exact rw_iret dX10_apartFrom_35 ⟨rfl, rfl⟩
    · have h := bw_if c4 h
      refine rw_iconst (v := -1) dX10_apartFrom_22 (by decide) ?_
      refine rw_goto (tgt := 35) dX10_apartFrom_23 (by decide) ?_
      have h := Option.some.inj h
      subst h
      exact rw_iret dX10_apartFrom_35 ⟨rfl, rfl⟩
set_option maxRecDepth 20000 in
set_option maxHeartbeats 1000000 in
theorem ct_X10_apart {w : WE} {M : Mem} {v1 : Int32} {out : Int32 × Mem} (h : f_X10_apart M v1 = some out) : Ct w 6 yX10_apart cX10_apart 3 (some .int) [.ref (bw_ad w 93), .int v1] M (bw_pi (out.1) out.2) := by
  refine Ct.of (own := RX10) rfl (by decide) (by intro v hv; simp only [List.mem_cons, List.not_mem_nil, or_false] at hv; rcases hv with rfl | rfl <;> first | rfl | exact bw_cat_rf _) (Nat.le_of_ble_eq_true rfl) ?_
  unfold f_X10_apart at h
  show RW w 6 0 0 0 0 cX10_apart RX10 3 (some .int) (bw_Z w (bw_pi (out.1) out.2)) 0 [(0, .ref (bw_ad w 93)), (1, .int v1)] [] M
  refine rw_iload_n dX10_apart_0 rfl rfl ?_
  refine rw_iconst (v := 1) dX10_apart_1 (by decide) ?_
  refine rw_bipush (v := 100) dX10_apart_2 (by decide) ?_
  refine rw_callS3 dX10_apart_4 ln_RX10_117 ms_X10_in (ct_X10_in rfl) (Nat.le_of_ble_eq_true rfl) (Nat.le_of_ble_eq_true rfl) (bw_kkz (fun z1 => ?_))
  refine rw_if_ne (tgt := 13) dX10_apart_7 (by decide) (fun c2 => ?_) (fun c2 => ?_)
  · have h := bw_if c2 h
    refine rw_aload_n dX10_apart_13 rfl rfl ?_
    obtain ⟨q3, hq3, h⟩ := bw_bd h
    refine rw_callV0 dX10_apart_14 ln_RX10_222 mv_X10_asks (sh_m w) (bw_kl (by decide)) (ct_X10_asks hq3) (Nat.le_of_ble_eq_true rfl) (Nat.le_of_ble_eq_true rfl) (bw_kkv ?_)
    refine rw_aload_n dX10_apart_17 rfl rfl ?_
    refine rw_iload_n dX10_apart_18 rfl rfl ?_
    obtain ⟨q4, hq4, h⟩ := bw_bd h
    refine rw_callV1 dX10_apart_19 ln_RX10_263 mv_X10_apartFrom (sh_m w) (bw_kl (by decide)) (ct_X10_apartFrom hq4) (Nat.le_of_ble_eq_true rfl) (Nat.le_of_ble_eq_true rfl) (bw_kki ?_)
    refine rw_istore_n dX10_apart_22 rfl (by decide) ?_
    refine rw_iload_n dX10_apart_23 rfl rfl ?_
    have key : RW w 6 0 0 0 0 cX10_apart RX10 3 (some .int) (bw_Z w (bw_pi (out.1) out.2)) 33 [] [.int (if 0 ≤ q4.1 then q4.1 else (-1000000005 : Int32))] q4.2 := by
      have h := Option.some.inj h
      subst h
      exact rw_iret dX10_apart_33 ⟨rfl, rfl⟩
    refine rw_if_ge (tgt := 32) dX10_apart_24 (by decide) (fun c5 => ?_) (fun c5 => ?_)
    · refine rw_iload_n dX10_apart_32 rfl rfl ?_
      simp only [if_pos c5] at key
      exact rw_sub rw_lz key
    · refine rw_ldc dX10_apart_27 cn_RX10_145 ?_
      refine rw_goto (tgt := 33) dX10_apart_29 (by decide) ?_
      simp only [if_neg c5] at key
      exact rw_sub rw_lz key
  · have h := bw_it c2 h
    refine rw_ldc dX10_apart_10 cn_RX10_125 ?_
    have h := Option.some.inj h
    subst h
    exact rw_iret dX10_apart_12 ⟨rfl, rfl⟩
set_option maxRecDepth 20000 in
set_option maxHeartbeats 1000000 in
theorem th_X10_edge_L12 {w : WE} {out : Int32 × Mem} : ∀ (n : Nat) (v1 : Int32) (v2 : Int32) (v3 : Int32) (M : Mem), f_X10_edge_L12 n v1 v2 v3 M = some out → RW w 6 0 0 0 0 cX10_edge RX10 5 (some .int) (bw_Z w (bw_pi (out.1) out.2)) 12 [(0, .ref (bw_ad w 93)), (1, .int v1), (2, .int v2), (3, .int v3)] [] M := by
  intro n
  induction n with
  | zero => intro v1 v2 v3 M h; cases h
  | succ n ih =>
    intro v1 v2 v3 M h
    rw [f_X10_edge_L12] at h
    refine rw_iload_n dX10_edge_12 rfl rfl ?_
    refine rw_if_le (tgt := 51) dX10_edge_13 (by decide) (fun c2 => ?_) (fun c2 => ?_)
    · have h := bw_it c2 h
      refine rw_iload_n dX10_edge_51 rfl rfl ?_
      have h := Option.some.inj h
      subst h
      exact rw_iret dX10_edge_52 ⟨rfl, rfl⟩
    · have h := bw_if c2 h
      refine rw_aload_n dX10_edge_16 rfl rfl ?_
      refine rw_iload_n dX10_edge_17 rfl rfl ?_
      obtain ⟨q3, hq3, h⟩ := bw_bd h
      refine rw_callV1 dX10_edge_18 ln_RX10_263 mv_X10_apartFrom (sh_m w) (bw_kl (by decide)) (ct_X10_apartFrom hq3) (Nat.le_of_ble_eq_true rfl) (Nat.le_of_ble_eq_true rfl) (bw_kki ?_)
      refine rw_istore dX10_edge_21 (by decide) ?_
      refine rw_iload dX10_edge_23 rfl ?_
      have key : RW w 6 0 0 0 0 cX10_edge RX10 5 (some .int) (bw_Z w (bw_pi (out.1) out.2)) 45 [(0, .ref (bw_ad w 93)), (1, .int (if q3.1 < 0 then v1 else (if v1 = (-1000000005 : Int32) then v3 else (if v2 ≤ q3.1 then v1 else v3)))), (2, .int (if q3.1 < 0 then v2 else (if v1 = (-1000000005 : Int32) then q3.1 else (if v2 ≤ q3.1 then v2 else q3.1)))), (3, .int v3)] [] q3.2 := by
        refine rw_dec dX10_edge_45 rfl (by decide) ?_
        refine rw_goto (tgt := 12) dX10_edge_48 (by decide) ?_
        exact rw_sub (rw_lc rfl (rw_lc rfl (rw_lc rfl (rw_lc rfl rw_lz)))) (ih (if q3.1 < 0 then v1 else (if v1 = (-1000000005 : Int32) then v3 else (if v2 ≤ q3.1 then v1 else v3))) (if q3.1 < 0 then v2 else (if v1 = (-1000000005 : Int32) then q3.1 else (if v2 ≤ q3.1 then v2 else q3.1))) (v3 - 1) q3.2 h)
      refine rw_if_lt (tgt := 45) dX10_edge_25 (by decide) (fun c4 => ?_) (fun c4 => ?_)
      · simp only [if_pos c4] at key
        exact rw_sub (rw_lc rfl (rw_lc rfl (rw_lc rfl (rw_lc rfl rw_lz)))) key
      · refine rw_iload_n dX10_edge_28 rfl rfl ?_
        refine rw_ldc dX10_edge_29 cn_RX10_145 ?_
        refine rw_icmp_eq (tgt := 40) dX10_edge_31 (by decide) (fun c5 => ?_) (fun c5 => ?_)
        · refine rw_iload_n dX10_edge_40 rfl rfl ?_
          refine rw_istore_n dX10_edge_41 rfl (by decide) ?_
          refine rw_iload dX10_edge_42 rfl ?_
          refine rw_istore_n dX10_edge_44 rfl (by decide) ?_
          simp only [if_neg c4, if_pos c5] at key
          exact rw_sub (rw_lc rfl (rw_lc rfl (rw_lc rfl (rw_lc rfl rw_lz)))) key
        · refine rw_iload dX10_edge_34 rfl ?_
          refine rw_iload_n dX10_edge_36 rfl rfl ?_
          refine rw_icmp_ge (tgt := 45) dX10_edge_37 (by decide) (fun c6 => ?_) (fun c6 => ?_)
          · simp only [if_neg c4, if_neg c5, if_pos c6] at key
            exact rw_sub (rw_lc rfl (rw_lc rfl (rw_lc rfl (rw_lc rfl rw_lz)))) key
          · refine rw_iload_n dX10_edge_40 rfl rfl ?_
            refine rw_istore_n dX10_edge_41 rfl (by decide) ?_
            refine rw_iload dX10_edge_42 rfl ?_
            refine rw_istore_n dX10_edge_44 rfl (by decide) ?_
            simp only [if_neg c4, if_neg c5, if_neg c6] at key
            exact rw_sub (rw_lc rfl (rw_lc rfl (rw_lc rfl (rw_lc rfl rw_lz)))) key
set_option maxRecDepth 20000 in
set_option maxHeartbeats 1000000 in
theorem ct_X10_edge {w : WE} {M : Mem} {out : Int32 × Mem} (h : f_X10_edge M = some out) : Ct w 6 yX10_edge cX10_edge 5 (some .int) [.ref (bw_ad w 93)] M (bw_pi (out.1) out.2) := by
  refine Ct.of (own := RX10) rfl (by decide) (by intro v hv; rw [List.mem_singleton.mp hv]; first | rfl | exact bw_cat_rf _) (Nat.le_of_ble_eq_true rfl) ?_
  unfold f_X10_edge at h
  show RW w 6 0 0 0 0 cX10_edge RX10 5 (some .int) (bw_Z w (bw_pi (out.1) out.2)) 0 [(0, .ref (bw_ad w 93))] [] M
  refine rw_aload_n dX10_edge_0 rfl rfl ?_
  obtain ⟨q1, hq1, h⟩ := bw_bd h
  refine rw_callV0 dX10_edge_1 ln_RX10_222 mv_X10_asks (sh_m w) (bw_kl (by decide)) (ct_X10_asks hq1) (Nat.le_of_ble_eq_true rfl) (Nat.le_of_ble_eq_true rfl) (bw_kkv ?_)
  refine rw_ldc dX10_edge_4 cn_RX10_145 ?_
  refine rw_istore_n dX10_edge_6 rfl (by decide) ?_
  refine rw_iconst (v := 0) dX10_edge_7 (by decide) ?_
  refine rw_istore_n dX10_edge_8 rfl (by decide) ?_
  refine rw_bipush (v := 100) dX10_edge_9 (by decide) ?_
  refine rw_istore_n dX10_edge_11 rfl (by decide) ?_
  exact rw_sub (rw_lc rfl (rw_lc rfl (rw_lc rfl (rw_lc rfl rw_lz)))) (th_X10_edge_L12 bw_fu (-1000000005 : Int32) (0 : Int32) (100 : Int32) q1 h)
set_option maxRecDepth 20000 in
set_option maxHeartbeats 1000000 in
theorem th_X10_feed_L18 {w : WE} {v1 : Int32} {v2 : Int32} {v3 : Int32} {out : Int32 × Mem} : ∀ (n : Nat) (v4 : Int32) (M : Mem), f_X10_feed_L18 v1 v2 v3 n v4 M = some out → RW w 0 0 0 0 0 cX10_feed RX10 6 (some .int) (bw_Z w (bw_pi (out.1) out.2)) 18 [(0, .ref (bw_ad w 93)), (1, .int v1), (2, .int v2), (3, .int v3), (4, .int v4)] [] M := by
  intro n
  induction n with
  | zero => intro v4 M h; cases h
  | succ n ih =>
    intro v4 M h
    rw [f_X10_feed_L18] at h
    refine rw_iload dX10_feed_18 rfl ?_
    refine rw_bipush (v := 12) dX10_feed_20 (by decide) ?_
    refine rw_icmp_ge (tgt := 84) dX10_feed_22 (by decide) (fun c2 => ?_) (fun c2 => ?_)
    · have h := bw_it c2 h
      refine rw_aload_n dX10_feed_84 rfl rfl ?_
      refine rw_dup dX10_feed_85 rfl ?_
      refine rw_get dX10_feed_86 fl_RX10_266 (sh_m w) (bw_kl (by decide)) rfl ?_
      refine rw_bipush (v := 12) dX10_feed_89 (by decide) ?_
      refine rw_iadd dX10_feed_91 ?_
      refine rw_puti dX10_feed_92 fl_RX10_266 fp_10_26 (sh_m w) (bw_kl (by decide)) (by decide) (fun _ => rfl) (fun _ => Nat.le_of_ble_eq_true rfl) ?_
      obtain ⟨M3, hM3, h⟩ := bw_mlE h
      refine rw_m hM3.symm ?_
      refine rw_aload_n dX10_feed_95 rfl rfl ?_
      refine rw_get dX10_feed_96 fl_RX10_266 (sh_m w) (bw_kl (by decide)) rfl ?_
      have h := Option.some.inj h
      subst h
      exact rw_iret dX10_feed_99 ⟨rfl, rfl⟩
    · have h := bw_if c2 h
      refine rw_iload dX10_feed_25 rfl ?_
      refine rw_iconst (v := 4) dX10_feed_27 (by decide) ?_
      have key : RW w 0 0 0 0 0 cX10_feed RX10 6 (some .int) (bw_Z w (bw_pi (out.1) out.2)) 47 [(0, .ref (bw_ad w 93)), (1, .int v1), (2, .int v2), (3, .int v3), (4, .int v4)] [.int (if (4 : Int32) ≤ v4 then (if (8 : Int32) ≤ v4 then v3 else v2) else v1)] M := by
        obtain ⟨x6, hx6, h⟩ := bw_mlE h
        refine rw_ti hx6 ?_
        refine rw_istore dX10_feed_47 (by decide) ?_
        refine rw_aload_n dX10_feed_49 rfl rfl ?_
        refine rw_get dX10_feed_50 fl_RX10_59 (sh_m w) (bw_kl (by decide)) rfl ?_
        refine rw_aload_n dX10_feed_53 rfl rfl ?_
        refine rw_get dX10_feed_54 fl_RX10_266 (sh_m w) (bw_kl (by decide)) rfl ?_
        refine rw_iload dX10_feed_57 rfl ?_
        refine rw_iadd dX10_feed_59 ?_
        refine rw_iload dX10_feed_60 rfl ?_
        refine rw_bipush (v := 24) dX10_feed_62 (by decide) ?_
        refine rw_bipush (v := 8) dX10_feed_64 (by decide) ?_
        refine rw_iload dX10_feed_66 rfl ?_
        refine rw_iconst (v := 4) dX10_feed_68 (by decide) ?_
        refine rw_irem dX10_feed_69 (by decide) ?_
        refine rw_imul dX10_feed_70 ?_
        refine rw_isub dX10_feed_71 ?_
        refine rw_ishr dX10_feed_72 ?_
        refine rw_sipush (v := 255) dX10_feed_73 (by decide) ?_
        refine rw_iand dX10_feed_76 ?_
        obtain ⟨g7, h⟩ := bw_gd h
        refine rw_iast dX10_feed_77 (sh_m_tape w) (bw_kl (by decide)) (bw_in g7) ?_
        obtain ⟨M8, hM8, h⟩ := bw_mlE h
        refine rw_m hM8.symm ?_
        refine rw_inc dX10_feed_78 rfl (by decide) ?_
        refine rw_goto (tgt := 18) dX10_feed_81 (by decide) ?_
        exact rw_sub (rw_lc rfl (rw_lc rfl (rw_lc rfl (rw_lc rfl (rw_lc rfl rw_lz))))) (ih (v4 + 1) M8 h)
      refine rw_icmp_ge (tgt := 35) dX10_feed_28 (by decide) (fun c4 => ?_) (fun c4 => ?_)
      · refine rw_iload dX10_feed_35 rfl ?_
        refine rw_bipush (v := 8) dX10_feed_37 (by decide) ?_
        refine rw_icmp_ge (tgt := 46) dX10_feed_39 (by decide) (fun c5 => ?_) (fun c5 => ?_)
        · refine rw_iload_n dX10_feed_46 rfl rfl ?_
          simp only [if_pos c4, if_pos c5] at key
          exact rw_sub (rw_lc rfl (rw_lc rfl (rw_lc rfl (rw_lc rfl (rw_lc rfl rw_lz))))) key
        · refine rw_iload_n dX10_feed_42 rfl rfl ?_
          refine rw_goto (tgt := 47) dX10_feed_43 (by decide) ?_
          simp only [if_pos c4, if_neg c5] at key
          exact rw_sub (rw_lc rfl (rw_lc rfl (rw_lc rfl (rw_lc rfl (rw_lc rfl rw_lz))))) key
      · refine rw_iload_n dX10_feed_31 rfl rfl ?_
        refine rw_goto (tgt := 47) dX10_feed_32 (by decide) ?_
        simp only [if_neg c4] at key
        exact rw_sub (rw_lc rfl (rw_lc rfl (rw_lc rfl (rw_lc rfl (rw_lc rfl rw_lz))))) key
set_option maxRecDepth 20000 in
set_option maxHeartbeats 1000000 in
theorem ct_X10_feed {w : WE} {M : Mem} {v1 : Int32} {v2 : Int32} {v3 : Int32} {out : Int32 × Mem} (h : f_X10_feed M v1 v2 v3 = some out) : Ct w 0 yX10_feed cX10_feed 6 (some .int) [.ref (bw_ad w 93), .int v1, .int v2, .int v3] M (bw_pi (out.1) out.2) := by
  refine Ct.of (own := RX10) rfl (by decide) (by intro v hv; simp only [List.mem_cons, List.not_mem_nil, or_false] at hv; rcases hv with rfl | rfl | rfl | rfl <;> first | rfl | exact bw_cat_rf _) (Nat.le_of_ble_eq_true rfl) ?_
  unfold f_X10_feed at h
  show RW w 0 0 0 0 0 cX10_feed RX10 6 (some .int) (bw_Z w (bw_pi (out.1) out.2)) 0 [(0, .ref (bw_ad w 93)), (1, .int v1), (2, .int v2), (3, .int v3)] [] M
  refine rw_aload_n dX10_feed_0 rfl rfl ?_
  refine rw_get dX10_feed_1 fl_RX10_266 (sh_m w) (bw_kl (by decide)) rfl ?_
  refine rw_bipush (v := 12) dX10_feed_4 (by decide) ?_
  refine rw_iadd dX10_feed_6 ?_
  refine rw_bipush (v := 96) dX10_feed_7 (by decide) ?_
  refine rw_icmp_le (tgt := 15) dX10_feed_9 (by decide) (fun c1 => ?_) (fun c1 => ?_)
  · have h := bw_it c1 h
    refine rw_iconst (v := 0) dX10_feed_15 (by decide) ?_
    refine rw_istore dX10_feed_16 (by decide) ?_
    exact rw_sub (rw_lc rfl (rw_lc rfl (rw_lc rfl (rw_lc rfl (rw_lc rfl rw_lz))))) (th_X10_feed_L18 bw_fu (0 : Int32) M h)
  · have h := bw_if c1 h
    refine rw_ldc dX10_feed_12 cn_RX10_126 ?_
    have h := Option.some.inj h
    subst h
    exact rw_iret dX10_feed_14 ⟨rfl, rfl⟩
set_option maxRecDepth 20000 in
set_option maxHeartbeats 1000000 in
theorem ct_X10_trim {w : WE} {M : Mem} {v1 : Int32} {out : Int32 × Mem} (h : f_X10_trim M v1 = some out) : Ct w 1 yX10_trim cX10_trim 2 (some .int) [.ref (bw_ad w 93), .int v1] M (bw_pi (out.1) out.2) := by
  refine Ct.of (own := RX10) rfl (by decide) (by intro v hv; simp only [List.mem_cons, List.not_mem_nil, or_false] at hv; rcases hv with rfl | rfl <;> first | rfl | exact bw_cat_rf _) (Nat.le_of_ble_eq_true rfl) ?_
  unfold f_X10_trim at h
  show RW w 1 0 0 0 0 cX10_trim RX10 2 (some .int) (bw_Z w (bw_pi (out.1) out.2)) 0 [(0, .ref (bw_ad w 93)), (1, .int v1)] [] M
  refine rw_iload_n dX10_trim_0 rfl rfl ?_
  refine rw_iconst (v := 0) dX10_trim_1 (by decide) ?_
  refine rw_aload_n dX10_trim_2 rfl rfl ?_
  refine rw_get dX10_trim_3 fl_RX10_266 (sh_m w) (bw_kl (by decide)) rfl ?_
  refine rw_callS3 dX10_trim_6 ln_RX10_117 ms_X10_in (ct_X10_in rfl) (Nat.le_of_ble_eq_true rfl) (Nat.le_of_ble_eq_true rfl) (bw_kkz (fun z1 => ?_))
  refine rw_if_ne (tgt := 15) dX10_trim_9 (by decide) (fun c2 => ?_) (fun c2 => ?_)
  · have h := bw_if c2 h
    refine rw_aload_n dX10_trim_15 rfl rfl ?_
    refine rw_iload_n dX10_trim_16 rfl rfl ?_
    refine rw_puti dX10_trim_17 fl_RX10_266 fp_10_26 (sh_m w) (bw_kl (by decide)) (by decide) (fun _ => rfl) (fun _ => Nat.le_of_ble_eq_true rfl) ?_
    obtain ⟨M3, hM3, h⟩ := bw_mlE h
    refine rw_m hM3.symm ?_
    refine rw_iload_n dX10_trim_20 rfl rfl ?_
    have h := Option.some.inj h
    subst h
    exact rw_iret dX10_trim_21 ⟨rfl, rfl⟩
  · have h := bw_it c2 h
    refine rw_ldc dX10_trim_12 cn_RX10_125 ?_
    have h := Option.some.inj h
    subst h
    exact rw_iret dX10_trim_14 ⟨rfl, rfl⟩
set_option maxRecDepth 20000 in
set_option maxHeartbeats 1000000 in
theorem ct_X10_isLetter {w : WE} {M : Mem} {v1 : Int32} {out : Int32} (h : f_X10_isLetter M v1 = some out) : Ct w 0 yX10_isLetter cX10_isLetter 2 (some .boolean) [.ref (bw_ad w 93), .int v1] M (bw_pz (out) M) := by
  refine Ct.of (own := RX10) rfl (by decide) (by intro v hv; simp only [List.mem_cons, List.not_mem_nil, or_false] at hv; rcases hv with rfl | rfl <;> first | rfl | exact bw_cat_rf _) (Nat.le_of_ble_eq_true rfl) ?_
  unfold f_X10_isLetter at h
  show RW w 0 0 0 0 0 cX10_isLetter RX10 2 (some .boolean) (bw_Z w (bw_pz (out) M)) 0 [(0, .ref (bw_ad w 93)), (1, .int v1)] [] M
  refine rw_iload_n dX10_isLetter_0 rfl rfl ?_
  refine rw_aload_n dX10_isLetter_1 rfl rfl ?_
  refine rw_get dX10_isLetter_2 fl_RX10_266 (sh_m w) (bw_kl (by decide)) rfl ?_
  refine rw_icmp_ge (tgt := 34) dX10_isLetter_5 (by decide) (fun c1 => ?_) (fun c1 => ?_)
  · have h := bw_it c1 h
    refine rw_iconst (v := 0) dX10_isLetter_34 (by decide) ?_
    have h := Option.some.inj h
    subst h
    exact rw_zret dX10_isLetter_35 bw_n0 ⟨rfl, rfl, bw_n0⟩
  · have h := bw_if c1 h
    refine rw_aload_n dX10_isLetter_8 rfl rfl ?_
    refine rw_get dX10_isLetter_9 fl_RX10_59 (sh_m w) (bw_kl (by decide)) rfl ?_
    refine rw_iload_n dX10_isLetter_12 rfl rfl ?_
    obtain ⟨g2, h⟩ := bw_gd h
    refine rw_iald dX10_isLetter_13 (sh_m_tape w) (bw_kl (by decide)) (bw_in g2) ?_
    refine rw_bipush (v := 97) dX10_isLetter_14 (by decide) ?_
    have key : RW w 0 0 0 0 0 cX10_isLetter RX10 2 (some .boolean) (bw_Z w (bw_pz (out) M)) 35 [] [.int (if (M 110 v1.toNatClampNeg) < (97 : Int32) then (0 : Int32) else (if (122 : Int32) < (M 110 v1.toNatClampNeg) then (0 : Int32) else (1 : Int32)))] M := by
      have h := Option.some.inj h
      subst h
      exact rw_zret dX10_isLetter_35 (by (repeat' split) <;> first | exact bw_n0 | exact bw_n1) ⟨rfl, rfl, (by (repeat' split) <;> first | exact bw_n0 | exact bw_n1)⟩
    refine rw_icmp_lt (tgt := 34) dX10_isLetter_16 (by decide) (fun c3 => ?_) (fun c3 => ?_)
    · refine rw_iconst (v := 0) dX10_isLetter_34 (by decide) ?_
      simp only [if_pos c3] at key
      exact rw_sub rw_lz key
    · refine rw_aload_n dX10_isLetter_19 rfl rfl ?_
      refine rw_get dX10_isLetter_20 fl_RX10_59 (sh_m w) (bw_kl (by decide)) rfl ?_
      refine rw_iload_n dX10_isLetter_23 rfl rfl ?_
      refine rw_iald dX10_isLetter_24 (sh_m_tape w) (bw_kl (by decide)) (bw_in g2) ?_
      refine rw_bipush (v := 122) dX10_isLetter_25 (by decide) ?_
      refine rw_icmp_gt (tgt := 34) dX10_isLetter_27 (by decide) (fun c4 => ?_) (fun c4 => ?_)
      · refine rw_iconst (v := 0) dX10_isLetter_34 (by decide) ?_
        simp only [if_neg c3, if_pos c4] at key
        exact rw_sub rw_lz key
      · refine rw_iconst (v := 1) dX10_isLetter_30 (by decide) ?_
        refine rw_goto (tgt := 35) dX10_isLetter_31 (by decide) ?_
        simp only [if_neg c3, if_neg c4] at key
        exact rw_sub rw_lz key
set_option maxRecDepth 20000 in
set_option maxHeartbeats 1000000 in
theorem ct_X10_isFigure {w : WE} {M : Mem} {v1 : Int32} {out : Int32} (h : f_X10_isFigure M v1 = some out) : Ct w 0 yX10_isFigure cX10_isFigure 2 (some .boolean) [.ref (bw_ad w 93), .int v1] M (bw_pz (out) M) := by
  refine Ct.of (own := RX10) rfl (by decide) (by intro v hv; simp only [List.mem_cons, List.not_mem_nil, or_false] at hv; rcases hv with rfl | rfl <;> first | rfl | exact bw_cat_rf _) (Nat.le_of_ble_eq_true rfl) ?_
  unfold f_X10_isFigure at h
  show RW w 0 0 0 0 0 cX10_isFigure RX10 2 (some .boolean) (bw_Z w (bw_pz (out) M)) 0 [(0, .ref (bw_ad w 93)), (1, .int v1)] [] M
  refine rw_iload_n dX10_isFigure_0 rfl rfl ?_
  refine rw_aload_n dX10_isFigure_1 rfl rfl ?_
  refine rw_get dX10_isFigure_2 fl_RX10_266 (sh_m w) (bw_kl (by decide)) rfl ?_
  refine rw_icmp_ge (tgt := 34) dX10_isFigure_5 (by decide) (fun c1 => ?_) (fun c1 => ?_)
  · have h := bw_it c1 h
    refine rw_iconst (v := 0) dX10_isFigure_34 (by decide) ?_
    have h := Option.some.inj h
    subst h
    exact rw_zret dX10_isFigure_35 bw_n0 ⟨rfl, rfl, bw_n0⟩
  · have h := bw_if c1 h
    refine rw_aload_n dX10_isFigure_8 rfl rfl ?_
    refine rw_get dX10_isFigure_9 fl_RX10_59 (sh_m w) (bw_kl (by decide)) rfl ?_
    refine rw_iload_n dX10_isFigure_12 rfl rfl ?_
    obtain ⟨g2, h⟩ := bw_gd h
    refine rw_iald dX10_isFigure_13 (sh_m_tape w) (bw_kl (by decide)) (bw_in g2) ?_
    refine rw_bipush (v := 48) dX10_isFigure_14 (by decide) ?_
    have key : RW w 0 0 0 0 0 cX10_isFigure RX10 2 (some .boolean) (bw_Z w (bw_pz (out) M)) 35 [] [.int (if (M 110 v1.toNatClampNeg) < (48 : Int32) then (0 : Int32) else (if (57 : Int32) < (M 110 v1.toNatClampNeg) then (0 : Int32) else (1 : Int32)))] M := by
      have h := Option.some.inj h
      subst h
      exact rw_zret dX10_isFigure_35 (by (repeat' split) <;> first | exact bw_n0 | exact bw_n1) ⟨rfl, rfl, (by (repeat' split) <;> first | exact bw_n0 | exact bw_n1)⟩
    refine rw_icmp_lt (tgt := 34) dX10_isFigure_16 (by decide) (fun c3 => ?_) (fun c3 => ?_)
    · refine rw_iconst (v := 0) dX10_isFigure_34 (by decide) ?_
      simp only [if_pos c3] at key
      exact rw_sub rw_lz key
    · refine rw_aload_n dX10_isFigure_19 rfl rfl ?_
      refine rw_get dX10_isFigure_20 fl_RX10_59 (sh_m w) (bw_kl (by decide)) rfl ?_
      refine rw_iload_n dX10_isFigure_23 rfl rfl ?_
      refine rw_iald dX10_isFigure_24 (sh_m_tape w) (bw_kl (by decide)) (bw_in g2) ?_
      refine rw_bipush (v := 57) dX10_isFigure_25 (by decide) ?_
      refine rw_icmp_gt (tgt := 34) dX10_isFigure_27 (by decide) (fun c4 => ?_) (fun c4 => ?_)
      · refine rw_iconst (v := 0) dX10_isFigure_34 (by decide) ?_
        simp only [if_neg c3, if_pos c4] at key
        exact rw_sub rw_lz key
      · refine rw_iconst (v := 1) dX10_isFigure_30 (by decide) ?_
        refine rw_goto (tgt := 35) dX10_isFigure_31 (by decide) ?_
        simp only [if_neg c3, if_neg c4] at key
        exact rw_sub rw_lz key
set_option maxRecDepth 20000 in
set_option maxHeartbeats 1000000 in
theorem th_X10_go_L170 {w : WE} {v1 : Int32} {out : Mem} : ∀ (n : Nat) (M : Mem), f_X10_go_L170 v1 n M = some out → RW w 1 0 0 0 0 cX10_go RX10 2 none (bw_Z w (bw_pv out)) 170 [(0, .ref (bw_ad w 93)), (1, .int v1)] [] M := by
  intro n
  induction n with
  | zero => intro M h; cases h
  | succ n ih =>
    intro M h
    rw [f_X10_go_L170] at h
    refine rw_aload_n dX10_go_170 rfl rfl ?_
    refine rw_aload_n dX10_go_171 rfl rfl ?_
    refine rw_get dX10_go_172 fl_RX10_269 (sh_m w) (bw_kl (by decide)) rfl ?_
    obtain ⟨q16, hq16, h⟩ := bw_bd h
    refine rw_callV1 dX10_go_175 ln_RX10_287 mv_X10_isFigure (sh_m w) (bw_kl (by decide)) (ct_X10_isFigure hq16) (Nat.le_of_ble_eq_true rfl) (Nat.le_of_ble_eq_true rfl) (bw_kkz (fun z17 => ?_))
    refine rw_if_eq (tgt := 238) dX10_go_178 (by decide) (fun c18 => ?_) (fun c18 => ?_)
    · have h := bw_it c18 h
      refine rw_aload_n dX10_go_238 rfl rfl ?_
      refine rw_iload_n dX10_go_239 rfl rfl ?_
      refine rw_if_ne (tgt := 256) dX10_go_240 (by decide) (fun c19 => ?_) (fun c19 => ?_)
      · have h := bw_if c19 h
        refine rw_iconst (v := 4) dX10_go_256 (by decide) ?_
        refine rw_goto (tgt := 261) dX10_go_257 (by decide) ?_
        refine rw_puti dX10_go_261 fl_RX10_278 fp_10_29 (sh_m w) (bw_kl (by decide)) (by decide) (fun _ => rfl) (fun _ => Nat.le_of_ble_eq_true rfl) ?_
        obtain ⟨M20, hM20, h⟩ := bw_mlE h
        refine rw_m hM20.symm ?_
        refine rw_aload_n dX10_go_264 rfl rfl ?_
        refine rw_aload_n dX10_go_265 rfl rfl ?_
        refine rw_get dX10_go_266 fl_RX10_269 (sh_m w) (bw_kl (by decide)) rfl ?_
        refine rw_puti dX10_go_269 fl_RX10_275 fp_10_31 (sh_m w) (bw_kl (by decide)) (by decide) (fun _ => rfl) (fun _ => Nat.le_of_ble_eq_true rfl) ?_
        obtain ⟨M21, hM21, h⟩ := bw_mlE h
        refine rw_m hM21.symm ?_
        refine rw_goto (tgt := 303) dX10_go_272 (by decide) ?_
        have h := Option.some.inj h
        subst h
        exact rw_vret dX10_go_303 ⟨rfl, rfl⟩
      · have h := bw_it c19 h
        refine rw_aload_n dX10_go_243 rfl rfl ?_
        refine rw_get dX10_go_244 fl_RX10_269 (sh_m w) (bw_kl (by decide)) rfl ?_
        refine rw_aload_n dX10_go_247 rfl rfl ?_
        refine rw_get dX10_go_248 fl_RX10_272 (sh_m w) (bw_kl (by decide)) rfl ?_
        refine rw_isub dX10_go_251 ?_
        refine rw_iconst (v := 4) dX10_go_252 (by decide) ?_
        refine rw_icmp_le (tgt := 260) dX10_go_253 (by decide) (fun c22 => ?_) (fun c22 => ?_)
        · have h := bw_it c22 h
          refine rw_iconst (v := 2) dX10_go_260 (by decide) ?_
          refine rw_puti dX10_go_261 fl_RX10_278 fp_10_29 (sh_m w) (bw_kl (by decide)) (by decide) (fun _ => rfl) (fun _ => Nat.le_of_ble_eq_true rfl) ?_
          obtain ⟨M23, hM23, h⟩ := bw_mlE h
          refine rw_m hM23.symm ?_
          refine rw_aload_n dX10_go_264 rfl rfl ?_
          refine rw_aload_n dX10_go_265 rfl rfl ?_
          refine rw_get dX10_go_266 fl_RX10_269 (sh_m w) (bw_kl (by decide)) rfl ?_
          refine rw_puti dX10_go_269 fl_RX10_275 fp_10_31 (sh_m w) (bw_kl (by decide)) (by decide) (fun _ => rfl) (fun _ => Nat.le_of_ble_eq_true rfl) ?_
          obtain ⟨M24, hM24, h⟩ := bw_mlE h
          refine rw_m hM24.symm ?_
          refine rw_goto (tgt := 303) dX10_go_272 (by decide) ?_
          have h := Option.some.inj h
          subst h
          exact rw_vret dX10_go_303 ⟨rfl, rfl⟩
        · have h := bw_if c22 h
          refine rw_iconst (v := 4) dX10_go_256 (by decide) ?_
          refine rw_goto (tgt := 261) dX10_go_257 (by decide) ?_
          refine rw_puti dX10_go_261 fl_RX10_278 fp_10_29 (sh_m w) (bw_kl (by decide)) (by decide) (fun _ => rfl) (fun _ => Nat.le_of_ble_eq_true rfl) ?_
          obtain ⟨M25, hM25, h⟩ := bw_mlE h
          refine rw_m hM25.symm ?_
          refine rw_aload_n dX10_go_264 rfl rfl ?_
          refine rw_aload_n dX10_go_265 rfl rfl ?_
          refine rw_get dX10_go_266 fl_RX10_269 (sh_m w) (bw_kl (by decide)) rfl ?_
          refine rw_puti dX10_go_269 fl_RX10_275 fp_10_31 (sh_m w) (bw_kl (by decide)) (by decide) (fun _ => rfl) (fun _ => Nat.le_of_ble_eq_true rfl) ?_
          obtain ⟨M26, hM26, h⟩ := bw_mlE h
          refine rw_m hM26.symm ?_
          refine rw_goto (tgt := 303) dX10_go_272 (by decide) ?_
          have h := Option.some.inj h
          subst h
          exact rw_vret dX10_go_303 ⟨rfl, rfl⟩
    · have h := bw_if c18 h
      refine rw_aload_n dX10_go_181 rfl rfl ?_
      refine rw_aload_n dX10_go_182 rfl rfl ?_
      refine rw_get dX10_go_183 fl_RX10_269 (sh_m w) (bw_kl (by decide)) rfl ?_
      refine rw_aload_n dX10_go_186 rfl rfl ?_
      refine rw_get dX10_go_187 fl_RX10_272 (sh_m w) (bw_kl (by decide)) rfl ?_
      refine rw_isub dX10_go_190 ?_
      refine rw_iconst (v := 4) dX10_go_191 (by decide) ?_
      refine rw_icmp_ge (tgt := 218) dX10_go_192 (by decide) (fun c27 => ?_) (fun c27 => ?_)
      · have h := bw_it c27 h
        refine rw_aload_n dX10_go_218 rfl rfl ?_
        refine rw_get dX10_go_219 fl_RX10_284 (sh_m w) (bw_kl (by decide)) rfl ?_
        refine rw_puti dX10_go_222 fl_RX10_284 fp_10_30 (sh_m w) (bw_kl (by decide)) (by decide) (fun _ => rfl) (fun _ => Nat.le_of_ble_eq_true rfl) ?_
        obtain ⟨M28, hM28, h⟩ := bw_mlE h
        refine rw_m hM28.symm ?_
        refine rw_aload_n dX10_go_225 rfl rfl ?_
        refine rw_dup dX10_go_226 rfl ?_
        refine rw_get dX10_go_227 fl_RX10_269 (sh_m w) (bw_kl (by decide)) rfl ?_
        refine rw_iconst (v := 1) dX10_go_230 (by decide) ?_
        refine rw_iadd dX10_go_231 ?_
        refine rw_puti dX10_go_232 fl_RX10_269 fp_10_27 (sh_m w) (bw_kl (by decide)) (by decide) (fun _ => rfl) (fun _ => Nat.le_of_ble_eq_true rfl) ?_
        obtain ⟨M29, hM29, h⟩ := bw_mlE h
        refine rw_m hM29.symm ?_
        refine rw_goto (tgt := 170) dX10_go_235 (by decide) ?_
        exact rw_sub (rw_lc rfl (rw_lc rfl rw_lz)) (ih M29 h)
      · have h := bw_if c27 h
        refine rw_bipush (v := 10) dX10_go_195 (by decide) ?_
        refine rw_aload_n dX10_go_197 rfl rfl ?_
        refine rw_get dX10_go_198 fl_RX10_284 (sh_m w) (bw_kl (by decide)) rfl ?_
        refine rw_imul dX10_go_201 ?_
        refine rw_aload_n dX10_go_202 rfl rfl ?_
        refine rw_get dX10_go_203 fl_RX10_59 (sh_m w) (bw_kl (by decide)) rfl ?_
        refine rw_aload_n dX10_go_206 rfl rfl ?_
        refine rw_get dX10_go_207 fl_RX10_269 (sh_m w) (bw_kl (by decide)) rfl ?_
        obtain ⟨g30, h⟩ := bw_gd h
        refine rw_iald dX10_go_210 (sh_m_tape w) (bw_kl (by decide)) (bw_in g30) ?_
        refine rw_iadd dX10_go_211 ?_
        refine rw_bipush (v := 48) dX10_go_212 (by decide) ?_
        refine rw_isub dX10_go_214 ?_
        refine rw_goto (tgt := 222) dX10_go_215 (by decide) ?_
        refine rw_puti dX10_go_222 fl_RX10_284 fp_10_30 (sh_m w) (bw_kl (by decide)) (by decide) (fun _ => rfl) (fun _ => Nat.le_of_ble_eq_true rfl) ?_
        obtain ⟨M31, hM31, h⟩ := bw_mlE h
        refine rw_m hM31.symm ?_
        refine rw_aload_n dX10_go_225 rfl rfl ?_
        refine rw_dup dX10_go_226 rfl ?_
        refine rw_get dX10_go_227 fl_RX10_269 (sh_m w) (bw_kl (by decide)) rfl ?_
        refine rw_iconst (v := 1) dX10_go_230 (by decide) ?_
        refine rw_iadd dX10_go_231 ?_
        refine rw_puti dX10_go_232 fl_RX10_269 fp_10_27 (sh_m w) (bw_kl (by decide)) (by decide) (fun _ => rfl) (fun _ => Nat.le_of_ble_eq_true rfl) ?_
        obtain ⟨M32, hM32, h⟩ := bw_mlE h
        refine rw_m hM32.symm ?_
        refine rw_goto (tgt := 170) dX10_go_235 (by decide) ?_
        exact rw_sub (rw_lc rfl (rw_lc rfl rw_lz)) (ih M32 h)
set_option maxRecDepth 20000 in
set_option maxHeartbeats 1000000 in
theorem th_X10_go_L93 {w : WE} {v1 : Int32} {out : Mem} : ∀ (n : Nat) (M : Mem), f_X10_go_L93 v1 n M = some out → RW w 1 0 0 0 0 cX10_go RX10 2 none (bw_Z w (bw_pv out)) 93 [(0, .ref (bw_ad w 93)), (1, .int v1)] [] M := by
  intro n
  induction n with
  | zero => intro M h; cases h
  | succ n ih =>
    intro M h
    rw [f_X10_go_L93] at h
    refine rw_aload_n dX10_go_93 rfl rfl ?_
    refine rw_aload_n dX10_go_94 rfl rfl ?_
    refine rw_get dX10_go_95 fl_RX10_269 (sh_m w) (bw_kl (by decide)) rfl ?_
    obtain ⟨q33, hq33, h⟩ := bw_bd h
    refine rw_callV1 dX10_go_98 ln_RX10_281 mv_X10_isLetter (sh_m w) (bw_kl (by decide)) (ct_X10_isLetter hq33) (Nat.le_of_ble_eq_true rfl) (Nat.le_of_ble_eq_true rfl) (bw_kkz (fun z34 => ?_))
    refine rw_if_eq (tgt := 117) dX10_go_101 (by decide) (fun c35 => ?_) (fun c35 => ?_)
    · have h := bw_it c35 h
      refine rw_aload_n dX10_go_117 rfl rfl ?_
      refine rw_iload_n dX10_go_118 rfl rfl ?_
      refine rw_if_eq (tgt := 126) dX10_go_119 (by decide) (fun c36 => ?_) (fun c36 => ?_)
      · have h := bw_it c36 h
        refine rw_iconst (v := 1) dX10_go_126 (by decide) ?_
        refine rw_puti dX10_go_127 fl_RX10_278 fp_10_29 (sh_m w) (bw_kl (by decide)) (by decide) (fun _ => rfl) (fun _ => Nat.le_of_ble_eq_true rfl) ?_
        obtain ⟨M37, hM37, h⟩ := bw_mlE h
        refine rw_m hM37.symm ?_
        refine rw_aload_n dX10_go_130 rfl rfl ?_
        refine rw_aload_n dX10_go_131 rfl rfl ?_
        refine rw_get dX10_go_132 fl_RX10_59 (sh_m w) (bw_kl (by decide)) rfl ?_
        refine rw_aload_n dX10_go_135 rfl rfl ?_
        refine rw_get dX10_go_136 fl_RX10_272 (sh_m w) (bw_kl (by decide)) rfl ?_
        obtain ⟨g38, h⟩ := bw_gd h
        refine rw_iald dX10_go_139 (sh_m_tape w) (bw_kl (by decide)) (bw_in g38) ?_
        refine rw_puti dX10_go_140 fl_RX10_284 fp_10_30 (sh_m w) (bw_kl (by decide)) (by decide) (fun _ => rfl) (fun _ => Nat.le_of_ble_eq_true rfl) ?_
        obtain ⟨M39, hM39, h⟩ := bw_mlE h
        refine rw_m hM39.symm ?_
        refine rw_aload_n dX10_go_143 rfl rfl ?_
        refine rw_aload_n dX10_go_144 rfl rfl ?_
        refine rw_get dX10_go_145 fl_RX10_269 (sh_m w) (bw_kl (by decide)) rfl ?_
        refine rw_puti dX10_go_148 fl_RX10_275 fp_10_31 (sh_m w) (bw_kl (by decide)) (by decide) (fun _ => rfl) (fun _ => Nat.le_of_ble_eq_true rfl) ?_
        obtain ⟨M40, hM40, h⟩ := bw_mlE h
        refine rw_m hM40.symm ?_
        refine rw_goto (tgt := 303) dX10_go_151 (by decide) ?_
        have h := Option.some.inj h
        subst h
        exact rw_vret dX10_go_303 ⟨rfl, rfl⟩
      · have h := bw_if c36 h
        refine rw_iconst (v := 4) dX10_go_122 (by decide) ?_
        refine rw_goto (tgt := 127) dX10_go_123 (by decide) ?_
        refine rw_puti dX10_go_127 fl_RX10_278 fp_10_29 (sh_m w) (bw_kl (by decide)) (by decide) (fun _ => rfl) (fun _ => Nat.le_of_ble_eq_true rfl) ?_
        obtain ⟨M41, hM41, h⟩ := bw_mlE h
        refine rw_m hM41.symm ?_
        refine rw_aload_n dX10_go_130 rfl rfl ?_
        refine rw_aload_n dX10_go_131 rfl rfl ?_
        refine rw_get dX10_go_132 fl_RX10_59 (sh_m w) (bw_kl (by decide)) rfl ?_
        refine rw_aload_n dX10_go_135 rfl rfl ?_
        refine rw_get dX10_go_136 fl_RX10_272 (sh_m w) (bw_kl (by decide)) rfl ?_
        obtain ⟨g42, h⟩ := bw_gd h
        refine rw_iald dX10_go_139 (sh_m_tape w) (bw_kl (by decide)) (bw_in g42) ?_
        refine rw_puti dX10_go_140 fl_RX10_284 fp_10_30 (sh_m w) (bw_kl (by decide)) (by decide) (fun _ => rfl) (fun _ => Nat.le_of_ble_eq_true rfl) ?_
        obtain ⟨M43, hM43, h⟩ := bw_mlE h
        refine rw_m hM43.symm ?_
        refine rw_aload_n dX10_go_143 rfl rfl ?_
        refine rw_aload_n dX10_go_144 rfl rfl ?_
        refine rw_get dX10_go_145 fl_RX10_269 (sh_m w) (bw_kl (by decide)) rfl ?_
        refine rw_puti dX10_go_148 fl_RX10_275 fp_10_31 (sh_m w) (bw_kl (by decide)) (by decide) (fun _ => rfl) (fun _ => Nat.le_of_ble_eq_true rfl) ?_
        obtain ⟨M44, hM44, h⟩ := bw_mlE h
        refine rw_m hM44.symm ?_
        refine rw_goto (tgt := 303) dX10_go_151 (by decide) ?_
        have h := Option.some.inj h
        subst h
        exact rw_vret dX10_go_303 ⟨rfl, rfl⟩
    · have h := bw_if c35 h
      refine rw_aload_n dX10_go_104 rfl rfl ?_
      refine rw_dup dX10_go_105 rfl ?_
      refine rw_get dX10_go_106 fl_RX10_269 (sh_m w) (bw_kl (by decide)) rfl ?_
      refine rw_iconst (v := 1) dX10_go_109 (by decide) ?_
      refine rw_iadd dX10_go_110 ?_
      refine rw_puti dX10_go_111 fl_RX10_269 fp_10_27 (sh_m w) (bw_kl (by decide)) (by decide) (fun _ => rfl) (fun _ => Nat.le_of_ble_eq_true rfl) ?_
      obtain ⟨M45, hM45, h⟩ := bw_mlE h
      refine rw_m hM45.symm ?_
      refine rw_goto (tgt := 93) dX10_go_114 (by decide) ?_
      exact rw_sub (rw_lc rfl (rw_lc rfl rw_lz)) (ih M45 h)
set_option maxRecDepth 20000 in
set_option maxHeartbeats 1000000 in
theorem th_X10_go_L0 {w : WE} {out : Mem} : ∀ (n : Nat) (M : Mem), f_X10_go_L0 n M = some out → RW w 1 0 0 0 0 cX10_go RX10 2 none (bw_Z w (bw_pv out)) 0 [(0, .ref (bw_ad w 93))] [] M := by
  intro n
  induction n with
  | zero => intro M h; cases h
  | succ n ih =>
    intro M h
    rw [f_X10_go_L0] at h
    refine rw_aload_n dX10_go_0 rfl rfl ?_
    refine rw_get dX10_go_1 fl_RX10_269 (sh_m w) (bw_kl (by decide)) rfl ?_
    refine rw_aload_n dX10_go_4 rfl rfl ?_
    refine rw_get dX10_go_5 fl_RX10_266 (sh_m w) (bw_kl (by decide)) rfl ?_
    refine rw_icmp_ge (tgt := 38) dX10_go_8 (by decide) (fun c1 => ?_) (fun c1 => ?_)
    · have h := bw_it c1 h
      refine rw_aload_n dX10_go_38 rfl rfl ?_
      refine rw_aload_n dX10_go_39 rfl rfl ?_
      refine rw_get dX10_go_40 fl_RX10_269 (sh_m w) (bw_kl (by decide)) rfl ?_
      refine rw_puti dX10_go_43 fl_RX10_272 fp_10_28 (sh_m w) (bw_kl (by decide)) (by decide) (fun _ => rfl) (fun _ => Nat.le_of_ble_eq_true rfl) ?_
      obtain ⟨M2, hM2, h⟩ := bw_mlE h
      refine rw_m hM2.symm ?_
      refine rw_aload_n dX10_go_46 rfl rfl ?_
      refine rw_get dX10_go_47 fl_RX10_272 (sh_m w) (bw_kl (by decide)) rfl ?_
      refine rw_aload_n dX10_go_50 rfl rfl ?_
      refine rw_get dX10_go_51 fl_RX10_275 (sh_m w) (bw_kl (by decide)) rfl ?_
      refine rw_icmp_ne (tgt := 61) dX10_go_54 (by decide) (fun c3 => ?_) (fun c3 => ?_)
      · have h := bw_if c3 h
        refine rw_iconst (v := 0) dX10_go_61 (by decide) ?_
        refine rw_istore_n dX10_go_62 rfl (by decide) ?_
        refine rw_aload_n dX10_go_63 rfl rfl ?_
        refine rw_get dX10_go_64 fl_RX10_272 (sh_m w) (bw_kl (by decide)) rfl ?_
        refine rw_aload_n dX10_go_67 rfl rfl ?_
        refine rw_get dX10_go_68 fl_RX10_266 (sh_m w) (bw_kl (by decide)) rfl ?_
        refine rw_icmp_ne (tgt := 82) dX10_go_71 (by decide) (fun c4 => ?_) (fun c4 => ?_)
        · have h := bw_if c4 h
          refine rw_aload_n dX10_go_82 rfl rfl ?_
          refine rw_aload_n dX10_go_83 rfl rfl ?_
          refine rw_get dX10_go_84 fl_RX10_272 (sh_m w) (bw_kl (by decide)) rfl ?_
          obtain ⟨q5, hq5, h⟩ := bw_bd h
          refine rw_callV1 dX10_go_87 ln_RX10_281 mv_X10_isLetter (sh_m w) (bw_kl (by decide)) (ct_X10_isLetter hq5) (Nat.le_of_ble_eq_true rfl) (Nat.le_of_ble_eq_true rfl) (bw_kkz (fun z6 => ?_))
          refine rw_if_eq (tgt := 154) dX10_go_90 (by decide) (fun c7 => ?_) (fun c7 => ?_)
          · have h := bw_it c7 h
            refine rw_aload_n dX10_go_154 rfl rfl ?_
            refine rw_aload_n dX10_go_155 rfl rfl ?_
            refine rw_get dX10_go_156 fl_RX10_272 (sh_m w) (bw_kl (by decide)) rfl ?_
            obtain ⟨q8, hq8, h⟩ := bw_bd h
            refine rw_callV1 dX10_go_159 ln_RX10_287 mv_X10_isFigure (sh_m w) (bw_kl (by decide)) (ct_X10_isFigure hq8) (Nat.le_of_ble_eq_true rfl) (Nat.le_of_ble_eq_true rfl) (bw_kkz (fun z9 => ?_))
            refine rw_if_eq (tgt := 275) dX10_go_162 (by decide) (fun c10 => ?_) (fun c10 => ?_)
            · have h := bw_it c10 h
              refine rw_aload_n dX10_go_275 rfl rfl ?_
              refine rw_iconst (v := 3) dX10_go_276 (by decide) ?_
              refine rw_puti dX10_go_277 fl_RX10_278 fp_10_29 (sh_m w) (bw_kl (by decide)) (by decide) (fun _ => rfl) (fun _ => Nat.le_of_ble_eq_true rfl) ?_
              obtain ⟨M11, hM11, h⟩ := bw_mlE h
              refine rw_m hM11.symm ?_
              refine rw_aload_n dX10_go_280 rfl rfl ?_
              refine rw_aload_n dX10_go_281 rfl rfl ?_
              refine rw_get dX10_go_282 fl_RX10_59 (sh_m w) (bw_kl (by decide)) rfl ?_
              refine rw_aload_n dX10_go_285 rfl rfl ?_
              refine rw_get dX10_go_286 fl_RX10_272 (sh_m w) (bw_kl (by decide)) rfl ?_
              obtain ⟨g12, h⟩ := bw_gd h
              refine rw_iald dX10_go_289 (sh_m_tape w) (bw_kl (by decide)) (bw_in g12) ?_
              refine rw_puti dX10_go_290 fl_RX10_284 fp_10_30 (sh_m w) (bw_kl (by decide)) (by decide) (fun _ => rfl) (fun _ => Nat.le_of_ble_eq_true rfl) ?_
              obtain ⟨M13, hM13, h⟩ := bw_mlE h
              refine rw_m hM13.symm ?_
              refine rw_aload_n dX10_go_293 rfl rfl ?_
              refine rw_dup dX10_go_294 rfl ?_
              refine rw_get dX10_go_295 fl_RX10_269 (sh_m w) (bw_kl (by decide)) rfl ?_
              refine rw_iconst (v := 1) dX10_go_298 (by decide) ?_
              refine rw_iadd dX10_go_299 ?_
              refine rw_puti dX10_go_300 fl_RX10_269 fp_10_27 (sh_m w) (bw_kl (by decide)) (by decide) (fun _ => rfl) (fun _ => Nat.le_of_ble_eq_true rfl) ?_
              obtain ⟨M14, hM14, h⟩ := bw_mlE h
              refine rw_m hM14.symm ?_
              have h := Option.some.inj h
              subst h
              exact rw_vret dX10_go_303 ⟨rfl, rfl⟩
            · have h := bw_if c10 h
              refine rw_aload_n dX10_go_165 rfl rfl ?_
              refine rw_iconst (v := 0) dX10_go_166 (by decide) ?_
              refine rw_puti dX10_go_167 fl_RX10_284 fp_10_30 (sh_m w) (bw_kl (by decide)) (by decide) (fun _ => rfl) (fun _ => Nat.le_of_ble_eq_true rfl) ?_
              obtain ⟨M15, hM15, h⟩ := bw_mlE h
              refine rw_m hM15.symm ?_
              exact rw_sub (rw_lc rfl (rw_lc rfl rw_lz)) (th_X10_go_L170 bw_fu M15 h)
          · have h := bw_if c7 h
            exact rw_sub (rw_lc rfl (rw_lc rfl rw_lz)) (th_X10_go_L93 bw_fu M2 h)
        · have h := bw_it c4 h
          refine rw_aload_n dX10_go_74 rfl rfl ?_
          refine rw_iconst (v := 0) dX10_go_75 (by decide) ?_
          refine rw_puti dX10_go_76 fl_RX10_278 fp_10_29 (sh_m w) (bw_kl (by decide)) (by decide) (fun _ => rfl) (fun _ => Nat.le_of_ble_eq_true rfl) ?_
          obtain ⟨M46, hM46, h⟩ := bw_mlE h
          refine rw_m hM46.symm ?_
          refine rw_goto (tgt := 303) dX10_go_79 (by decide) ?_
          have h := Option.some.inj h
          subst h
          exact rw_vret dX10_go_303 ⟨rfl, rfl⟩
      · have h := bw_it c3 h
        refine rw_iconst (v := 1) dX10_go_57 (by decide) ?_
        refine rw_goto (tgt := 62) dX10_go_58 (by decide) ?_
        refine rw_istore_n dX10_go_62 rfl (by decide) ?_
        refine rw_aload_n dX10_go_63 rfl rfl ?_
        refine rw_get dX10_go_64 fl_RX10_272 (sh_m w) (bw_kl (by decide)) rfl ?_
        refine rw_aload_n dX10_go_67 rfl rfl ?_
        refine rw_get dX10_go_68 fl_RX10_266 (sh_m w) (bw_kl (by decide)) rfl ?_
        refine rw_icmp_ne (tgt := 82) dX10_go_71 (by decide) (fun c47 => ?_) (fun c47 => ?_)
        · have h := bw_if c47 h
          refine rw_aload_n dX10_go_82 rfl rfl ?_
          refine rw_aload_n dX10_go_83 rfl rfl ?_
          refine rw_get dX10_go_84 fl_RX10_272 (sh_m w) (bw_kl (by decide)) rfl ?_
          obtain ⟨q48, hq48, h⟩ := bw_bd h
          refine rw_callV1 dX10_go_87 ln_RX10_281 mv_X10_isLetter (sh_m w) (bw_kl (by decide)) (ct_X10_isLetter hq48) (Nat.le_of_ble_eq_true rfl) (Nat.le_of_ble_eq_true rfl) (bw_kkz (fun z49 => ?_))
          refine rw_if_eq (tgt := 154) dX10_go_90 (by decide) (fun c50 => ?_) (fun c50 => ?_)
          · have h := bw_it c50 h
            refine rw_aload_n dX10_go_154 rfl rfl ?_
            refine rw_aload_n dX10_go_155 rfl rfl ?_
            refine rw_get dX10_go_156 fl_RX10_272 (sh_m w) (bw_kl (by decide)) rfl ?_
            obtain ⟨q51, hq51, h⟩ := bw_bd h
            refine rw_callV1 dX10_go_159 ln_RX10_287 mv_X10_isFigure (sh_m w) (bw_kl (by decide)) (ct_X10_isFigure hq51) (Nat.le_of_ble_eq_true rfl) (Nat.le_of_ble_eq_true rfl) (bw_kkz (fun z52 => ?_))
            refine rw_if_eq (tgt := 275) dX10_go_162 (by decide) (fun c53 => ?_) (fun c53 => ?_)
            · have h := bw_it c53 h
              refine rw_aload_n dX10_go_275 rfl rfl ?_
              refine rw_iconst (v := 3) dX10_go_276 (by decide) ?_
              refine rw_puti dX10_go_277 fl_RX10_278 fp_10_29 (sh_m w) (bw_kl (by decide)) (by decide) (fun _ => rfl) (fun _ => Nat.le_of_ble_eq_true rfl) ?_
              obtain ⟨M54, hM54, h⟩ := bw_mlE h
              refine rw_m hM54.symm ?_
              refine rw_aload_n dX10_go_280 rfl rfl ?_
              refine rw_aload_n dX10_go_281 rfl rfl ?_
              refine rw_get dX10_go_282 fl_RX10_59 (sh_m w) (bw_kl (by decide)) rfl ?_
              refine rw_aload_n dX10_go_285 rfl rfl ?_
              refine rw_get dX10_go_286 fl_RX10_272 (sh_m w) (bw_kl (by decide)) rfl ?_
              obtain ⟨g55, h⟩ := bw_gd h
              refine rw_iald dX10_go_289 (sh_m_tape w) (bw_kl (by decide)) (bw_in g55) ?_
              refine rw_puti dX10_go_290 fl_RX10_284 fp_10_30 (sh_m w) (bw_kl (by decide)) (by decide) (fun _ => rfl) (fun _ => Nat.le_of_ble_eq_true rfl) ?_
              obtain ⟨M56, hM56, h⟩ := bw_mlE h
              refine rw_m hM56.symm ?_
              refine rw_aload_n dX10_go_293 rfl rfl ?_
              refine rw_dup dX10_go_294 rfl ?_
              refine rw_get dX10_go_295 fl_RX10_269 (sh_m w) (bw_kl (by decide)) rfl ?_
              refine rw_iconst (v := 1) dX10_go_298 (by decide) ?_
              refine rw_iadd dX10_go_299 ?_
              refine rw_puti dX10_go_300 fl_RX10_269 fp_10_27 (sh_m w) (bw_kl (by decide)) (by decide) (fun _ => rfl) (fun _ => Nat.le_of_ble_eq_true rfl) ?_
              obtain ⟨M57, hM57, h⟩ := bw_mlE h
              refine rw_m hM57.symm ?_
              have h := Option.some.inj h
              subst h
              exact rw_vret dX10_go_303 ⟨rfl, rfl⟩
            · have h := bw_if c53 h
              refine rw_aload_n dX10_go_165 rfl rfl ?_
              refine rw_iconst (v := 0) dX10_go_166 (by decide) ?_
              refine rw_puti dX10_go_167 fl_RX10_284 fp_10_30 (sh_m w) (bw_kl (by decide)) (by decide) (fun _ => rfl) (fun _ => Nat.le_of_ble_eq_true rfl) ?_
              obtain ⟨M58, hM58, h⟩ := bw_mlE h
              refine rw_m hM58.symm ?_
              exact rw_sub (rw_lc rfl (rw_lc rfl rw_lz)) (th_X10_go_L170 bw_fu M58 h)
          · have h := bw_if c50 h
            exact rw_sub (rw_lc rfl (rw_lc rfl rw_lz)) (th_X10_go_L93 bw_fu M2 h)
        · have h := bw_it c47 h
          refine rw_aload_n dX10_go_74 rfl rfl ?_
          refine rw_iconst (v := 0) dX10_go_75 (by decide) ?_
          refine rw_puti dX10_go_76 fl_RX10_278 fp_10_29 (sh_m w) (bw_kl (by decide)) (by decide) (fun _ => rfl) (fun _ => Nat.le_of_ble_eq_true rfl) ?_
          obtain ⟨M59, hM59, h⟩ := bw_mlE h
          refine rw_m hM59.symm ?_
          refine rw_goto (tgt := 303) dX10_go_79 (by decide) ?_
          have h := Option.some.inj h
          subst h
          exact rw_vret dX10_go_303 ⟨rfl, rfl⟩
    · have h := bw_if c1 h
      refine rw_aload_n dX10_go_11 rfl rfl ?_
      refine rw_get dX10_go_12 fl_RX10_59 (sh_m w) (bw_kl (by decide)) rfl ?_
      refine rw_aload_n dX10_go_15 rfl rfl ?_
      refine rw_get dX10_go_16 fl_RX10_269 (sh_m w) (bw_kl (by decide)) rfl ?_
      obtain ⟨g60, h⟩ := bw_gd h
      refine rw_iald dX10_go_19 (sh_m_tape w) (bw_kl (by decide)) (bw_in g60) ?_
      refine rw_bipush (v := 32) dX10_go_20 (by decide) ?_
      refine rw_icmp_ne (tgt := 38) dX10_go_22 (by decide) (fun c61 => ?_) (fun c61 => ?_)
      · have h := bw_if c61 h
        refine rw_aload_n dX10_go_38 rfl rfl ?_
        refine rw_aload_n dX10_go_39 rfl rfl ?_
        refine rw_get dX10_go_40 fl_RX10_269 (sh_m w) (bw_kl (by decide)) rfl ?_
        refine rw_puti dX10_go_43 fl_RX10_272 fp_10_28 (sh_m w) (bw_kl (by decide)) (by decide) (fun _ => rfl) (fun _ => Nat.le_of_ble_eq_true rfl) ?_
        obtain ⟨M62, hM62, h⟩ := bw_mlE h
        refine rw_m hM62.symm ?_
        refine rw_aload_n dX10_go_46 rfl rfl ?_
        refine rw_get dX10_go_47 fl_RX10_272 (sh_m w) (bw_kl (by decide)) rfl ?_
        refine rw_aload_n dX10_go_50 rfl rfl ?_
        refine rw_get dX10_go_51 fl_RX10_275 (sh_m w) (bw_kl (by decide)) rfl ?_
        refine rw_icmp_ne (tgt := 61) dX10_go_54 (by decide) (fun c63 => ?_) (fun c63 => ?_)
        · have h := bw_if c63 h
          refine rw_iconst (v := 0) dX10_go_61 (by decide) ?_
          refine rw_istore_n dX10_go_62 rfl (by decide) ?_
          refine rw_aload_n dX10_go_63 rfl rfl ?_
          refine rw_get dX10_go_64 fl_RX10_272 (sh_m w) (bw_kl (by decide)) rfl ?_
          refine rw_aload_n dX10_go_67 rfl rfl ?_
          refine rw_get dX10_go_68 fl_RX10_266 (sh_m w) (bw_kl (by decide)) rfl ?_
          refine rw_icmp_ne (tgt := 82) dX10_go_71 (by decide) (fun c64 => ?_) (fun c64 => ?_)
          · have h := bw_if c64 h
            refine rw_aload_n dX10_go_82 rfl rfl ?_
            refine rw_aload_n dX10_go_83 rfl rfl ?_
            refine rw_get dX10_go_84 fl_RX10_272 (sh_m w) (bw_kl (by decide)) rfl ?_
            obtain ⟨q65, hq65, h⟩ := bw_bd h
            refine rw_callV1 dX10_go_87 ln_RX10_281 mv_X10_isLetter (sh_m w) (bw_kl (by decide)) (ct_X10_isLetter hq65) (Nat.le_of_ble_eq_true rfl) (Nat.le_of_ble_eq_true rfl) (bw_kkz (fun z66 => ?_))
            refine rw_if_eq (tgt := 154) dX10_go_90 (by decide) (fun c67 => ?_) (fun c67 => ?_)
            · have h := bw_it c67 h
              refine rw_aload_n dX10_go_154 rfl rfl ?_
              refine rw_aload_n dX10_go_155 rfl rfl ?_
              refine rw_get dX10_go_156 fl_RX10_272 (sh_m w) (bw_kl (by decide)) rfl ?_
              obtain ⟨q68, hq68, h⟩ := bw_bd h
              refine rw_callV1 dX10_go_159 ln_RX10_287 mv_X10_isFigure (sh_m w) (bw_kl (by decide)) (ct_X10_isFigure hq68) (Nat.le_of_ble_eq_true rfl) (Nat.le_of_ble_eq_true rfl) (bw_kkz (fun z69 => ?_))
              refine rw_if_eq (tgt := 275) dX10_go_162 (by decide) (fun c70 => ?_) (fun c70 => ?_)
              · have h := bw_it c70 h
                refine rw_aload_n dX10_go_275 rfl rfl ?_
                refine rw_iconst (v := 3) dX10_go_276 (by decide) ?_
                refine rw_puti dX10_go_277 fl_RX10_278 fp_10_29 (sh_m w) (bw_kl (by decide)) (by decide) (fun _ => rfl) (fun _ => Nat.le_of_ble_eq_true rfl) ?_
                obtain ⟨M71, hM71, h⟩ := bw_mlE h
                refine rw_m hM71.symm ?_
                refine rw_aload_n dX10_go_280 rfl rfl ?_
                refine rw_aload_n dX10_go_281 rfl rfl ?_
                refine rw_get dX10_go_282 fl_RX10_59 (sh_m w) (bw_kl (by decide)) rfl ?_
                refine rw_aload_n dX10_go_285 rfl rfl ?_
                refine rw_get dX10_go_286 fl_RX10_272 (sh_m w) (bw_kl (by decide)) rfl ?_
                obtain ⟨g72, h⟩ := bw_gd h
                refine rw_iald dX10_go_289 (sh_m_tape w) (bw_kl (by decide)) (bw_in g72) ?_
                refine rw_puti dX10_go_290 fl_RX10_284 fp_10_30 (sh_m w) (bw_kl (by decide)) (by decide) (fun _ => rfl) (fun _ => Nat.le_of_ble_eq_true rfl) ?_
                obtain ⟨M73, hM73, h⟩ := bw_mlE h
                refine rw_m hM73.symm ?_
                refine rw_aload_n dX10_go_293 rfl rfl ?_
                refine rw_dup dX10_go_294 rfl ?_
                refine rw_get dX10_go_295 fl_RX10_269 (sh_m w) (bw_kl (by decide)) rfl ?_
                refine rw_iconst (v := 1) dX10_go_298 (by decide) ?_
                refine rw_iadd dX10_go_299 ?_
                refine rw_puti dX10_go_300 fl_RX10_269 fp_10_27 (sh_m w) (bw_kl (by decide)) (by decide) (fun _ => rfl) (fun _ => Nat.le_of_ble_eq_true rfl) ?_
                obtain ⟨M74, hM74, h⟩ := bw_mlE h
                refine rw_m hM74.symm ?_
                have h := Option.some.inj h
                subst h
                exact rw_vret dX10_go_303 ⟨rfl, rfl⟩
              · have h := bw_if c70 h
                refine rw_aload_n dX10_go_165 rfl rfl ?_
                refine rw_iconst (v := 0) dX10_go_166 (by decide) ?_
                refine rw_puti dX10_go_167 fl_RX10_284 fp_10_30 (sh_m w) (bw_kl (by decide)) (by decide) (fun _ => rfl) (fun _ => Nat.le_of_ble_eq_true rfl) ?_
                obtain ⟨M75, hM75, h⟩ := bw_mlE h
                refine rw_m hM75.symm ?_
                exact rw_sub (rw_lc rfl (rw_lc rfl rw_lz)) (th_X10_go_L170 bw_fu M75 h)
            · have h := bw_if c67 h
              exact rw_sub (rw_lc rfl (rw_lc rfl rw_lz)) (th_X10_go_L93 bw_fu M62 h)
          · have h := bw_it c64 h
            refine rw_aload_n dX10_go_74 rfl rfl ?_
            refine rw_iconst (v := 0) dX10_go_75 (by decide) ?_
            refine rw_puti dX10_go_76 fl_RX10_278 fp_10_29 (sh_m w) (bw_kl (by decide)) (by decide) (fun _ => rfl) (fun _ => Nat.le_of_ble_eq_true rfl) ?_
            obtain ⟨M76, hM76, h⟩ := bw_mlE h
            refine rw_m hM76.symm ?_
            refine rw_goto (tgt := 303) dX10_go_79 (by decide) ?_
            have h := Option.some.inj h
            subst h
            exact rw_vret dX10_go_303 ⟨rfl, rfl⟩
        · have h := bw_it c63 h
          refine rw_iconst (v := 1) dX10_go_57 (by decide) ?_
          refine rw_goto (tgt := 62) dX10_go_58 (by decide) ?_
          refine rw_istore_n dX10_go_62 rfl (by decide) ?_
          refine rw_aload_n dX10_go_63 rfl rfl ?_
          refine rw_get dX10_go_64 fl_RX10_272 (sh_m w) (bw_kl (by decide)) rfl ?_
          refine rw_aload_n dX10_go_67 rfl rfl ?_
          refine rw_get dX10_go_68 fl_RX10_266 (sh_m w) (bw_kl (by decide)) rfl ?_
          refine rw_icmp_ne (tgt := 82) dX10_go_71 (by decide) (fun c77 => ?_) (fun c77 => ?_)
          · have h := bw_if c77 h
            refine rw_aload_n dX10_go_82 rfl rfl ?_
            refine rw_aload_n dX10_go_83 rfl rfl ?_
            refine rw_get dX10_go_84 fl_RX10_272 (sh_m w) (bw_kl (by decide)) rfl ?_
            obtain ⟨q78, hq78, h⟩ := bw_bd h
            refine rw_callV1 dX10_go_87 ln_RX10_281 mv_X10_isLetter (sh_m w) (bw_kl (by decide)) (ct_X10_isLetter hq78) (Nat.le_of_ble_eq_true rfl) (Nat.le_of_ble_eq_true rfl) (bw_kkz (fun z79 => ?_))
            refine rw_if_eq (tgt := 154) dX10_go_90 (by decide) (fun c80 => ?_) (fun c80 => ?_)
            · have h := bw_it c80 h
              refine rw_aload_n dX10_go_154 rfl rfl ?_
              refine rw_aload_n dX10_go_155 rfl rfl ?_
              refine rw_get dX10_go_156 fl_RX10_272 (sh_m w) (bw_kl (by decide)) rfl ?_
              obtain ⟨q81, hq81, h⟩ := bw_bd h
              refine rw_callV1 dX10_go_159 ln_RX10_287 mv_X10_isFigure (sh_m w) (bw_kl (by decide)) (ct_X10_isFigure hq81) (Nat.le_of_ble_eq_true rfl) (Nat.le_of_ble_eq_true rfl) (bw_kkz (fun z82 => ?_))
              refine rw_if_eq (tgt := 275) dX10_go_162 (by decide) (fun c83 => ?_) (fun c83 => ?_)
              · have h := bw_it c83 h
                refine rw_aload_n dX10_go_275 rfl rfl ?_
                refine rw_iconst (v := 3) dX10_go_276 (by decide) ?_
                refine rw_puti dX10_go_277 fl_RX10_278 fp_10_29 (sh_m w) (bw_kl (by decide)) (by decide) (fun _ => rfl) (fun _ => Nat.le_of_ble_eq_true rfl) ?_
                obtain ⟨M84, hM84, h⟩ := bw_mlE h
                refine rw_m hM84.symm ?_
                refine rw_aload_n dX10_go_280 rfl rfl ?_
                refine rw_aload_n dX10_go_281 rfl rfl ?_
                refine rw_get dX10_go_282 fl_RX10_59 (sh_m w) (bw_kl (by decide)) rfl ?_
                refine rw_aload_n dX10_go_285 rfl rfl ?_
                refine rw_get dX10_go_286 fl_RX10_272 (sh_m w) (bw_kl (by decide)) rfl ?_
                obtain ⟨g85, h⟩ := bw_gd h
                refine rw_iald dX10_go_289 (sh_m_tape w) (bw_kl (by decide)) (bw_in g85) ?_
                refine rw_puti dX10_go_290 fl_RX10_284 fp_10_30 (sh_m w) (bw_kl (by decide)) (by decide) (fun _ => rfl) (fun _ => Nat.le_of_ble_eq_true rfl) ?_
                obtain ⟨M86, hM86, h⟩ := bw_mlE h
                refine rw_m hM86.symm ?_
                refine rw_aload_n dX10_go_293 rfl rfl ?_
                refine rw_dup dX10_go_294 rfl ?_
                refine rw_get dX10_go_295 fl_RX10_269 (sh_m w) (bw_kl (by decide)) rfl ?_
                refine rw_iconst (v := 1) dX10_go_298 (by decide) ?_
                refine rw_iadd dX10_go_299 ?_
                refine rw_puti dX10_go_300 fl_RX10_269 fp_10_27 (sh_m w) (bw_kl (by decide)) (by decide) (fun _ => rfl) (fun _ => Nat.le_of_ble_eq_true rfl) ?_
                obtain ⟨M87, hM87, h⟩ := bw_mlE h
                refine rw_m hM87.symm ?_
                have h := Option.some.inj h
                subst h
                exact rw_vret dX10_go_303 ⟨rfl, rfl⟩
              · have h := bw_if c83 h
                refine rw_aload_n dX10_go_165 rfl rfl ?_
                refine rw_iconst (v := 0) dX10_go_166 (by decide) ?_
                refine rw_puti dX10_go_167 fl_RX10_284 fp_10_30 (sh_m w) (bw_kl (by decide)) (by decide) (fun _ => rfl) (fun _ => Nat.le_of_ble_eq_true rfl) ?_
                obtain ⟨M88, hM88, h⟩ := bw_mlE h
                refine rw_m hM88.symm ?_
                exact rw_sub (rw_lc rfl (rw_lc rfl rw_lz)) (th_X10_go_L170 bw_fu M88 h)
            · have h := bw_if c80 h
              exact rw_sub (rw_lc rfl (rw_lc rfl rw_lz)) (th_X10_go_L93 bw_fu M62 h)
          · have h := bw_it c77 h
            refine rw_aload_n dX10_go_74 rfl rfl ?_
            refine rw_iconst (v := 0) dX10_go_75 (by decide) ?_
            refine rw_puti dX10_go_76 fl_RX10_278 fp_10_29 (sh_m w) (bw_kl (by decide)) (by decide) (fun _ => rfl) (fun _ => Nat.le_of_ble_eq_true rfl) ?_
            obtain ⟨M89, hM89, h⟩ := bw_mlE h
            refine rw_m hM89.symm ?_
            refine rw_goto (tgt := 303) dX10_go_79 (by decide) ?_
            have h := Option.some.inj h
            subst h
            exact rw_vret dX10_go_303 ⟨rfl, rfl⟩
      · have h := bw_it c61 h
        refine rw_aload_n dX10_go_25 rfl rfl ?_
        refine rw_dup dX10_go_26 rfl ?_
        refine rw_get dX10_go_27 fl_RX10_269 (sh_m w) (bw_kl (by decide)) rfl ?_
        refine rw_iconst (v := 1) dX10_go_30 (by decide) ?_
        refine rw_iadd dX10_go_31 ?_
        refine rw_puti dX10_go_32 fl_RX10_269 fp_10_27 (sh_m w) (bw_kl (by decide)) (by decide) (fun _ => rfl) (fun _ => Nat.le_of_ble_eq_true rfl) ?_
        obtain ⟨M90, hM90, h⟩ := bw_mlE h
        refine rw_m hM90.symm ?_
        refine rw_goto (tgt := 0) dX10_go_35 (by decide) ?_
        exact rw_sub (rw_lc rfl rw_lz) (ih M90 h)
set_option maxRecDepth 20000 in
set_option maxHeartbeats 1000000 in
theorem ct_X10_go {w : WE} {M : Mem} {out : Mem} (h : f_X10_go M = some out) : Ct w 1 yX10_go cX10_go 2 none [.ref (bw_ad w 93)] M (bw_pv out) := by
  refine Ct.of (own := RX10) rfl (by decide) (by intro v hv; rw [List.mem_singleton.mp hv]; first | rfl | exact bw_cat_rf _) (Nat.le_of_ble_eq_true rfl) ?_
  unfold f_X10_go at h
  show RW w 1 0 0 0 0 cX10_go RX10 2 none (bw_Z w (bw_pv out)) 0 [(0, .ref (bw_ad w 93))] [] M
  exact rw_sub (rw_lc rfl rw_lz) (th_X10_go_L0 bw_fu M h)
set_option maxRecDepth 20000 in
set_option maxHeartbeats 1000000 in
theorem th_X10_takesKey_L55 {w : WE} {M : Mem} {v1 : Int32} {v2 : Int32} {Z : Option Value → Heap → Prop} {out : Int32} : ∀ (n : Nat) (v3 : Int32) (v4 : Int32), f_X10_takesKey_L55 M v1 v2 n v3 v4 = some out → RW w 2 0 0 0 0 cX10_takesKey RX10 5 (some .boolean) Z 106 [(0, .ref (bw_ad w 93)), (1, .int v1), (3, .int out)] [] M → RW w 2 0 0 0 0 cX10_takesKey RX10 5 (some .boolean) Z 55 [(0, .ref (bw_ad w 93)), (1, .int v1), (2, .int v2), (3, .int v3), (4, .int v4)] [] M := by
  intro n
  induction n with
  | zero => intro v3 v4 h hk; cases h
  | succ n ih =>
    intro v3 v4 h hk
    rw [f_X10_takesKey_L55] at h
    refine rw_iload dX10_takesKey_55 rfl ?_
    refine rw_iload_n dX10_takesKey_57 rfl rfl ?_
    refine rw_icmp_ge (tgt := 106) dX10_takesKey_58 (by decide) (fun c8 => ?_) (fun c8 => ?_)
    · have h := bw_it c8 h
      have h := Option.some.inj h
      subst h
      exact rw_sub (rw_lc rfl (rw_lc rfl (rw_lc rfl rw_lz))) hk
    · have h := bw_if c8 h
      refine rw_iload_n dX10_takesKey_61 rfl rfl ?_
      refine rw_if_eq (tgt := 106) dX10_takesKey_62 (by decide) (fun c9 => ?_) (fun c9 => ?_)
      · have h := bw_it c9 h
        have h := Option.some.inj h
        subst h
        exact rw_sub (rw_lc rfl (rw_lc rfl (rw_lc rfl rw_lz))) hk
      · have h := bw_if c9 h
        refine rw_aload_n dX10_takesKey_65 rfl rfl ?_
        refine rw_get dX10_takesKey_66 fl_RX10_59 (sh_m w) (bw_kl (by decide)) rfl ?_
        refine rw_aload_n dX10_takesKey_69 rfl rfl ?_
        refine rw_get dX10_takesKey_70 fl_RX10_272 (sh_m w) (bw_kl (by decide)) rfl ?_
        refine rw_iload dX10_takesKey_73 rfl ?_
        refine rw_iadd dX10_takesKey_75 ?_
        obtain ⟨g10, h⟩ := bw_gd h
        refine rw_iald dX10_takesKey_76 (sh_m_tape w) (bw_kl (by decide)) (bw_in g10) ?_
        refine rw_aload_n dX10_takesKey_77 rfl rfl ?_
        refine rw_get dX10_takesKey_78 fl_RX10_62 (sh_m w) (bw_kl (by decide)) rfl ?_
        refine rw_aload_n dX10_takesKey_81 rfl rfl ?_
        refine rw_get dX10_takesKey_82 fl_RX10_66 (sh_m w) (bw_kl (by decide)) rfl ?_
        refine rw_iload_n dX10_takesKey_85 rfl rfl ?_
        obtain ⟨g11, h⟩ := bw_gd h
        refine rw_iald dX10_takesKey_86 (sh_m_keyAt w) (bw_kl (by decide)) (bw_in g11) ?_
        refine rw_iload dX10_takesKey_87 rfl ?_
        refine rw_iadd dX10_takesKey_89 ?_
        obtain ⟨g12, h⟩ := bw_gd h
        refine rw_cald dX10_takesKey_90 (sh_m_keys w) (bw_kl (by decide)) (bw_in g12) ?_
        have key : RW w 2 0 0 0 0 cX10_takesKey RX10 5 (some .boolean) Z 99 [(0, .ref (bw_ad w 93)), (1, .int v1), (2, .int v2), (4, .int v4)] [.int (if (M 110 ((M 93 28) + v4).toNatClampNeg) = (M 111 ((M 112 v1.toNatClampNeg) + v4).toNatClampNeg) then (1 : Int32) else (0 : Int32))] M := by
          obtain ⟨x14, hx14, h⟩ := bw_mlE h
          refine rw_ti hx14 ?_
          refine rw_istore_n dX10_takesKey_99 rfl (by decide) ?_
          refine rw_inc dX10_takesKey_100 rfl (by decide) ?_
          refine rw_goto (tgt := 55) dX10_takesKey_103 (by decide) ?_
          exact rw_sub (rw_lc rfl (rw_lc rfl (rw_lc rfl (rw_lc rfl (rw_lc rfl rw_lz))))) (ih x14 (v4 + 1) h hk)
        refine rw_icmp_ne (tgt := 98) dX10_takesKey_91 (by decide) (fun c13 => ?_) (fun c13 => ?_)
        · refine rw_iconst (v := 0) dX10_takesKey_98 (by decide) ?_
          simp only [if_neg c13] at key
          exact rw_sub (rw_lc rfl (rw_lc rfl (rw_lc rfl (rw_lc rfl rw_lz)))) key
        · refine rw_iconst (v := 1) dX10_takesKey_94 (by decide) ?_
          refine rw_goto (tgt := 99) dX10_takesKey_95 (by decide) ?_
          simp only [if_pos c13] at key
          exact rw_sub (rw_lc rfl (rw_lc rfl (rw_lc rfl (rw_lc rfl rw_lz)))) key
set_option maxRecDepth 20000 in
set_option maxHeartbeats 1000000 in
theorem th_X10_takesKey_L12 {w : WE} {M : Mem} {out : Int32 × Mem} : ∀ (n : Nat) (v1 : Int32), f_X10_takesKey_L12 M n v1 = some out → RW w 2 0 0 0 0 cX10_takesKey RX10 5 (some .boolean) (bw_Z w (bw_pz (out.1) out.2)) 12 [(0, .ref (bw_ad w 93)), (1, .int v1)] [] M := by
  intro n
  induction n with
  | zero => intro v1 h; cases h
  | succ n ih =>
    intro v1 h
    rw [f_X10_takesKey_L12] at h
    refine rw_iload_n dX10_takesKey_12 rfl rfl ?_
    refine rw_iconst (v := 3) dX10_takesKey_13 (by decide) ?_
    refine rw_icmp_ge (tgt := 127) dX10_takesKey_14 (by decide) (fun c2 => ?_) (fun c2 => ?_)
    · have h := bw_it c2 h
      refine rw_iconst (v := 0) dX10_takesKey_127 (by decide) ?_
      have h := Option.some.inj h
      subst h
      exact rw_zret dX10_takesKey_128 bw_n0 ⟨rfl, rfl, bw_n0⟩
    · have h := bw_if c2 h
      refine rw_aload_n dX10_takesKey_17 rfl rfl ?_
      refine rw_get dX10_takesKey_18 fl_RX10_66 (sh_m w) (bw_kl (by decide)) rfl ?_
      refine rw_iload_n dX10_takesKey_21 rfl rfl ?_
      refine rw_iconst (v := 1) dX10_takesKey_22 (by decide) ?_
      refine rw_iadd dX10_takesKey_23 ?_
      obtain ⟨g3, h⟩ := bw_gd h
      refine rw_iald dX10_takesKey_24 (sh_m_keyAt w) (bw_kl (by decide)) (bw_in g3) ?_
      refine rw_aload_n dX10_takesKey_25 rfl rfl ?_
      refine rw_get dX10_takesKey_26 fl_RX10_66 (sh_m w) (bw_kl (by decide)) rfl ?_
      refine rw_iload_n dX10_takesKey_29 rfl rfl ?_
      obtain ⟨g4, h⟩ := bw_gd h
      refine rw_iald dX10_takesKey_30 (sh_m_keyAt w) (bw_kl (by decide)) (bw_in g4) ?_
      refine rw_isub dX10_takesKey_31 ?_
      obtain ⟨x5, hx5, h⟩ := bw_mlE h
      refine rw_ti hx5 ?_
      refine rw_istore_n dX10_takesKey_32 rfl (by decide) ?_
      refine rw_iload_n dX10_takesKey_33 rfl rfl ?_
      refine rw_aload_n dX10_takesKey_34 rfl rfl ?_
      refine rw_get dX10_takesKey_35 fl_RX10_269 (sh_m w) (bw_kl (by decide)) rfl ?_
      refine rw_aload_n dX10_takesKey_38 rfl rfl ?_
      refine rw_get dX10_takesKey_39 fl_RX10_272 (sh_m w) (bw_kl (by decide)) rfl ?_
      refine rw_isub dX10_takesKey_42 ?_
      have key : RW w 2 0 0 0 0 cX10_takesKey RX10 5 (some .boolean) (bw_Z w (bw_pz (out.1) out.2)) 51 [(0, .ref (bw_ad w 93)), (1, .int v1), (2, .int x5)] [.int (if x5 = ((M 93 27) - (M 93 28)) then (1 : Int32) else (0 : Int32))] M := by
        obtain ⟨x7, hx7, h⟩ := bw_mlE h
        refine rw_ti hx7 ?_
        refine rw_istore_n dX10_takesKey_51 rfl (by decide) ?_
        refine rw_iconst (v := 0) dX10_takesKey_52 (by decide) ?_
        refine rw_istore dX10_takesKey_53 (by decide) ?_
        obtain ⟨q15, hq15, h⟩ := bw_bd h
        refine rw_sub (rw_lc rfl (rw_lc rfl (rw_lc rfl (rw_lc rfl (rw_lc rfl rw_lz))))) (th_X10_takesKey_L55 bw_fu x7 (0 : Int32) hq15 ?_)
        refine rw_iload_n dX10_takesKey_106 rfl rfl ?_
        refine rw_if_eq (tgt := 121) dX10_takesKey_107 (by decide) (fun c16 => ?_) (fun c16 => ?_)
        · have h := bw_it c16 h
          refine rw_inc dX10_takesKey_121 rfl (by decide) ?_
          refine rw_goto (tgt := 12) dX10_takesKey_124 (by decide) ?_
          exact rw_sub (rw_lc rfl (rw_lc rfl rw_lz)) (ih (v1 + 1) h)
        · have h := bw_if c16 h
          refine rw_aload_n dX10_takesKey_110 rfl rfl ?_
          refine rw_iload_n dX10_takesKey_111 rfl rfl ?_
          refine rw_puti dX10_takesKey_112 fl_RX10_290 fp_10_32 (sh_m w) (bw_kl (by decide)) (by decide) (fun _ => rfl) (fun _ => Nat.le_of_ble_eq_true rfl) ?_
          obtain ⟨M17, hM17, h⟩ := bw_mlE h
          refine rw_m hM17.symm ?_
          refine rw_aload_n dX10_takesKey_115 rfl rfl ?_
          obtain ⟨q18, hq18, h⟩ := bw_bd h
          refine rw_callV0 dX10_takesKey_116 ln_RX10_293 mv_X10_go (sh_m w) (bw_kl (by decide)) (ct_X10_go hq18) (Nat.le_of_ble_eq_true rfl) (Nat.le_of_ble_eq_true rfl) (bw_kkv ?_)
          refine rw_iconst (v := 1) dX10_takesKey_119 (by decide) ?_
          have h := Option.some.inj h
          subst h
          exact rw_zret dX10_takesKey_120 bw_n1 ⟨rfl, rfl, bw_n1⟩
      refine rw_icmp_ne (tgt := 50) dX10_takesKey_43 (by decide) (fun c6 => ?_) (fun c6 => ?_)
      · refine rw_iconst (v := 0) dX10_takesKey_50 (by decide) ?_
        simp only [if_neg c6] at key
        exact rw_sub (rw_lc rfl (rw_lc rfl (rw_lc rfl rw_lz))) key
      · refine rw_iconst (v := 1) dX10_takesKey_46 (by decide) ?_
        refine rw_goto (tgt := 51) dX10_takesKey_47 (by decide) ?_
        simp only [if_pos c6] at key
        exact rw_sub (rw_lc rfl (rw_lc rfl (rw_lc rfl rw_lz))) key
set_option maxRecDepth 20000 in
set_option maxHeartbeats 1000000 in
theorem ct_X10_takesKey {w : WE} {M : Mem} {out : Int32 × Mem} (h : f_X10_takesKey M = some out) : Ct w 2 yX10_takesKey cX10_takesKey 5 (some .boolean) [.ref (bw_ad w 93)] M (bw_pz (out.1) out.2) := by
  refine Ct.of (own := RX10) rfl (by decide) (by intro v hv; rw [List.mem_singleton.mp hv]; first | rfl | exact bw_cat_rf _) (Nat.le_of_ble_eq_true rfl) ?_
  unfold f_X10_takesKey at h
  show RW w 2 0 0 0 0 cX10_takesKey RX10 5 (some .boolean) (bw_Z w (bw_pz (out.1) out.2)) 0 [(0, .ref (bw_ad w 93))] [] M
  refine rw_aload_n dX10_takesKey_0 rfl rfl ?_
  refine rw_get dX10_takesKey_1 fl_RX10_278 (sh_m w) (bw_kl (by decide)) rfl ?_
  refine rw_iconst (v := 1) dX10_takesKey_4 (by decide) ?_
  refine rw_icmp_eq (tgt := 10) dX10_takesKey_5 (by decide) (fun c1 => ?_) (fun c1 => ?_)
  · have h := bw_it c1 h
    refine rw_iconst (v := 0) dX10_takesKey_10 (by decide) ?_
    refine rw_istore_n dX10_takesKey_11 rfl (by decide) ?_
    exact rw_sub (rw_lc rfl (rw_lc rfl rw_lz)) (th_X10_takesKey_L12 bw_fu (0 : Int32) h)
  · have h := bw_if c1 h
    refine rw_iconst (v := 0) dX10_takesKey_8 (by decide) ?_
    have h := Option.some.inj h
    subst h
    exact rw_zret dX10_takesKey_9 bw_n0 ⟨rfl, rfl, bw_n0⟩
set_option maxRecDepth 20000 in
set_option maxHeartbeats 1000000 in
theorem ct_X10_nameOf {w : WE} {M : Mem} {v1 : Int32} {out : Int32} (h : f_X10_nameOf M v1 = out) : Ct w 0 yX10_nameOf cX10_nameOf 2 (some .int) [.ref (bw_ad w 93), .int v1] M (bw_pi (out) M) := by
  refine Ct.of (own := RX10) rfl (by decide) (by intro v hv; simp only [List.mem_cons, List.not_mem_nil, or_false] at hv; rcases hv with rfl | rfl <;> first | rfl | exact bw_cat_rf _) (Nat.le_of_ble_eq_true rfl) ?_
  unfold f_X10_nameOf at h
  show RW w 0 0 0 0 0 cX10_nameOf RX10 2 (some .int) (bw_Z w (bw_pi (out) M)) 0 [(0, .ref (bw_ad w 93)), (1, .int v1)] [] M
  refine rw_aload_n dX10_nameOf_0 rfl rfl ?_
  refine rw_get dX10_nameOf_1 fl_RX10_290 (sh_m w) (bw_kl (by decide)) rfl ?_
  refine rw_case (0 : Int32) (fun c1 => ?_) (fun c1 => ?_)
  · have h := bw_it c1 h
    refine rw_lookup (off := 28) (tgt := 32) dX10_nameOf_4 (by decide) (by first | (rw [c1]; done) | (rw [c1]; rfl)) (by decide) ?_
    refine rw_iload_n dX10_nameOf_32 rfl rfl ?_
    refine rw_bipush (v := 104) dX10_nameOf_33 (by decide) ?_
    have key : RW w 0 0 0 0 0 cX10_nameOf RX10 2 (some .int) (bw_Z w (bw_pi (out) M)) 63 [] [.int (if v1 = (104 : Int32) then (0 : Int32) else (if v1 = (110 : Int32) then (1 : Int32) else (if v1 = (108 : Int32) then (2 : Int32) else (-1 : Int32))))] M := by
      subst h
      exact rw_iret dX10_nameOf_63 ⟨rfl, rfl⟩
    refine rw_icmp_ne (tgt := 42) dX10_nameOf_35 (by decide) (fun c2 => ?_) (fun c2 => ?_)
    · refine rw_iload_n dX10_nameOf_42 rfl rfl ?_
      refine rw_bipush (v := 110) dX10_nameOf_43 (by decide) ?_
      refine rw_icmp_ne (tgt := 52) dX10_nameOf_45 (by decide) (fun c3 => ?_) (fun c3 => ?_)
      · refine rw_iload_n dX10_nameOf_52 rfl rfl ?_
        refine rw_bipush (v := 108) dX10_nameOf_53 (by decide) ?_
        refine rw_icmp_ne (tgt := 62) dX10_nameOf_55 (by decide) (fun c4 => ?_) (fun c4 => ?_)
        · refine rw_iconst (v := -1) dX10_nameOf_62 (by decide) ?_
          simp only [if_neg c2, if_neg c3, if_neg c4] at key
          exact rw_sub rw_lz key
        · refine rw_iconst (v := 2) dX10_nameOf_58 (by decide) ?_
          refine rw_goto (tgt := 63) dX10_nameOf_59 (by decide) ?_
          simp only [if_neg c2, if_neg c3, if_pos c4] at key
          exact rw_sub rw_lz key
      · refine rw_iconst (v := 1) dX10_nameOf_48 (by decide) ?_
        refine rw_goto (tgt := 63) dX10_nameOf_49 (by decide) ?_
        simp only [if_neg c2, if_pos c3] at key
        exact rw_sub rw_lz key
    · refine rw_iconst (v := 0) dX10_nameOf_38 (by decide) ?_
      refine rw_goto (tgt := 63) dX10_nameOf_39 (by decide) ?_
      simp only [if_pos c2] at key
      exact rw_sub rw_lz key
  · have h := bw_if c1 h
    refine rw_case (1 : Int32) (fun c5 => ?_) (fun c5 => ?_)
    · have h := bw_it c5 h
      refine rw_lookup (off := 60) (tgt := 64) dX10_nameOf_4 (by decide) (by first | (rw [c5]; done) | (rw [c5]; rfl)) (by decide) ?_
      refine rw_iload_n dX10_nameOf_64 rfl rfl ?_
      refine rw_bipush (v := 104) dX10_nameOf_65 (by decide) ?_
      have key : RW w 0 0 0 0 0 cX10_nameOf RX10 2 (some .int) (bw_Z w (bw_pi (out) M)) 85 [] [.int (if v1 = (104 : Int32) then (0 : Int32) else (if v1 = (112 : Int32) then (1 : Int32) else (-1 : Int32)))] M := by
        subst h
        exact rw_iret dX10_nameOf_85 ⟨rfl, rfl⟩
      refine rw_icmp_ne (tgt := 74) dX10_nameOf_67 (by decide) (fun c6 => ?_) (fun c6 => ?_)
      · refine rw_iload_n dX10_nameOf_74 rfl rfl ?_
        refine rw_bipush (v := 112) dX10_nameOf_75 (by decide) ?_
        refine rw_icmp_ne (tgt := 84) dX10_nameOf_77 (by decide) (fun c7 => ?_) (fun c7 => ?_)
        · refine rw_iconst (v := -1) dX10_nameOf_84 (by decide) ?_
          simp only [if_neg c6, if_neg c7] at key
          exact rw_sub rw_lz key
        · refine rw_iconst (v := 1) dX10_nameOf_80 (by decide) ?_
          refine rw_goto (tgt := 85) dX10_nameOf_81 (by decide) ?_
          simp only [if_neg c6, if_pos c7] at key
          exact rw_sub rw_lz key
      · refine rw_iconst (v := 0) dX10_nameOf_70 (by decide) ?_
        refine rw_goto (tgt := 85) dX10_nameOf_71 (by decide) ?_
        simp only [if_pos c6] at key
        exact rw_sub rw_lz key
    · have h := bw_if c5 h
      refine rw_lookup (off := 82) (tgt := 86) dX10_nameOf_4 (by decide) (by first | (rw [lv_osw (a := 0) c1 (by decide), lv_osw (a := 1) c5 (by decide)]; done) | (rw [lv_osw (a := 0) c1 (by decide), lv_osw (a := 1) c5 (by decide)]; rfl)) (by decide) ?_
      refine rw_iload_n dX10_nameOf_86 rfl rfl ?_
      refine rw_bipush (v := 112) dX10_nameOf_87 (by decide) ?_
      have key : RW w 0 0 0 0 0 cX10_nameOf RX10 2 (some .int) (bw_Z w (bw_pi (out) M)) 107 [] [.int (if v1 = (112 : Int32) then (0 : Int32) else (if v1 = (121 : Int32) then (1 : Int32) else (-1 : Int32)))] M := by
        subst h
        exact rw_iret dX10_nameOf_107 ⟨rfl, rfl⟩
      refine rw_icmp_ne (tgt := 96) dX10_nameOf_89 (by decide) (fun c8 => ?_) (fun c8 => ?_)
      · refine rw_iload_n dX10_nameOf_96 rfl rfl ?_
        refine rw_bipush (v := 121) dX10_nameOf_97 (by decide) ?_
        refine rw_icmp_ne (tgt := 106) dX10_nameOf_99 (by decide) (fun c9 => ?_) (fun c9 => ?_)
        · refine rw_iconst (v := -1) dX10_nameOf_106 (by decide) ?_
          simp only [if_neg c8, if_neg c9] at key
          exact rw_sub rw_lz key
        · refine rw_iconst (v := 1) dX10_nameOf_102 (by decide) ?_
          refine rw_goto (tgt := 107) dX10_nameOf_103 (by decide) ?_
          simp only [if_neg c8, if_pos c9] at key
          exact rw_sub rw_lz key
      · refine rw_iconst (v := 0) dX10_nameOf_92 (by decide) ?_
        refine rw_goto (tgt := 107) dX10_nameOf_93 (by decide) ?_
        simp only [if_pos c8] at key
        exact rw_sub rw_lz key
