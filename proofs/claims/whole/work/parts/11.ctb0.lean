set_option maxRecDepth 20000 in
set_option maxHeartbeats 1000000 in
theorem ct_X10_in {w : WE} {M : Mem} {v0 : Int32} {v1 : Int32} {v2 : Int32} {out : Int32} (h : f_X10_in v0 v1 v2 = out) : Ct w 0 yX10_in cX10_in 3 (some .boolean) [.int v0, .int v1, .int v2] M (bw_pz (out) M) := by
  refine Ct.of (own := RX10) rfl (by decide) (by intro v hv; simp only [List.mem_cons, List.not_mem_nil, or_false] at hv; rcases hv with rfl | rfl | rfl <;> first | rfl | exact bw_cat_rf _) (Nat.le_of_ble_eq_true rfl) ?_
  unfold f_X10_in at h
  show RW w 0 0 0 0 0 cX10_in RX10 3 (some .boolean) (bw_Z w (bw_pz (out) M)) 0 [(0, .int v0), (1, .int v1), (2, .int v2)] [] M
  refine rw_iload_n dX10_in_0 rfl rfl ?_
  refine rw_iload_n dX10_in_1 rfl rfl ?_
  have key : RW w 0 0 0 0 0 cX10_in RX10 3 (some .boolean) (bw_Z w (bw_pz (out) M)) 15 [] [.int (if v0 < v1 then (0 : Int32) else (if v2 < v0 then (0 : Int32) else (1 : Int32)))] M := by
    subst h
    exact rw_zret dX10_in_15 (by (repeat' split) <;> first | exact bw_n0 | exact bw_n1) ⟨rfl, rfl, (by (repeat' split) <;> first | exact bw_n0 | exact bw_n1)⟩
  refine rw_icmp_lt (tgt := 14) dX10_in_2 (by decide) (fun c1 => ?_) (fun c1 => ?_)
  · refine rw_iconst (v := 0) dX10_in_14 (by decide) ?_
    simp only [if_pos c1] at key
    exact rw_sub rw_lz key
  · refine rw_iload_n dX10_in_5 rfl rfl ?_
    refine rw_iload_n dX10_in_6 rfl rfl ?_
    refine rw_icmp_gt (tgt := 14) dX10_in_7 (by decide) (fun c2 => ?_) (fun c2 => ?_)
    · refine rw_iconst (v := 0) dX10_in_14 (by decide) ?_
      simp only [if_neg c1, if_pos c2] at key
      exact rw_sub rw_lz key
    · refine rw_iconst (v := 1) dX10_in_10 (by decide) ?_
      refine rw_goto (tgt := 15) dX10_in_11 (by decide) ?_
      simp only [if_neg c1, if_neg c2] at key
      exact rw_sub rw_lz key
set_option maxRecDepth 20000 in
set_option maxHeartbeats 1000000 in
theorem ct_X10_within {w : WE} {M : Mem} {v0 : Int32} {v1 : Int32} {v2 : Int32} {out : Int32} (h : f_X10_within v0 v1 v2 = out) : Ct w 0 yX10_within cX10_within 3 (some .int) [.int v0, .int v1, .int v2] M (bw_pi (out) M) := by
  refine Ct.of (own := RX10) rfl (by decide) (by intro v hv; simp only [List.mem_cons, List.not_mem_nil, or_false] at hv; rcases hv with rfl | rfl | rfl <;> first | rfl | exact bw_cat_rf _) (Nat.le_of_ble_eq_true rfl) ?_
  unfold f_X10_within at h
  show RW w 0 0 0 0 0 cX10_within RX10 3 (some .int) (bw_Z w (bw_pi (out) M)) 0 [(0, .int v0), (1, .int v1), (2, .int v2)] [] M
  refine rw_iload_n dX10_within_0 rfl rfl ?_
  refine rw_iload_n dX10_within_1 rfl rfl ?_
  have key : RW w 0 0 0 0 0 cX10_within RX10 3 (some .int) (bw_Z w (bw_pi (out) M)) 19 [] [.int (if v1 ≤ v0 then (if v0 ≤ v2 then v0 else v2) else v1)] M := by
    subst h
    exact rw_iret dX10_within_19 ⟨rfl, rfl⟩
  refine rw_icmp_ge (tgt := 9) dX10_within_2 (by decide) (fun c1 => ?_) (fun c1 => ?_)
  · refine rw_iload_n dX10_within_9 rfl rfl ?_
    refine rw_iload_n dX10_within_10 rfl rfl ?_
    refine rw_icmp_le (tgt := 18) dX10_within_11 (by decide) (fun c2 => ?_) (fun c2 => ?_)
    · refine rw_iload_n dX10_within_18 rfl rfl ?_
      simp only [if_pos c1, if_pos c2] at key
      exact rw_sub rw_lz key
    · refine rw_iload_n dX10_within_14 rfl rfl ?_
      refine rw_goto (tgt := 19) dX10_within_15 (by decide) ?_
      simp only [if_pos c1, if_neg c2] at key
      exact rw_sub rw_lz key
  · refine rw_iload_n dX10_within_5 rfl rfl ?_
    refine rw_goto (tgt := 19) dX10_within_6 (by decide) ?_
    simp only [if_neg c1] at key
    exact rw_sub rw_lz key
set_option maxRecDepth 20000 in
set_option maxHeartbeats 1000000 in
theorem th_X10_copyAll_L2 {w : WE} {a0 : Nat} {a1 : Nat} (ha0 : bw_iM a0) (ha1 : bw_iM a1) {out : Mem} : ∀ (n : Nat) (v2 : Int32) (M : Mem), f_X10_copyAll_L2 a0 a1 n v2 M = some out → RW w 0 0 0 0 0 cX10_copyAll RX10 3 none (bw_Z w (bw_pv out)) 2 [(0, .ref (bw_ad w a0)), (1, .ref (bw_ad w a1)), (2, .int v2)] [] M := by
  intro n
  induction n with
  | zero => intro v2 M h; cases h
  | succ n ih =>
    intro v2 M h
    rw [f_X10_copyAll_L2] at h
    refine rw_iload_n dX10_copyAll_2 rfl rfl ?_
    refine rw_sipush (v := 1530) dX10_copyAll_3 (by decide) ?_
    refine rw_icmp_ge (tgt := 21) dX10_copyAll_6 (by decide) (fun c1 => ?_) (fun c1 => ?_)
    · have h := bw_it c1 h
      have h := Option.some.inj h
      subst h
      exact rw_vret dX10_copyAll_21 ⟨rfl, rfl⟩
    · have h := bw_if c1 h
      refine rw_aload_n dX10_copyAll_9 rfl rfl ?_
      refine rw_iload_n dX10_copyAll_10 rfl rfl ?_
      refine rw_aload_n dX10_copyAll_11 rfl rfl ?_
      refine rw_iload_n dX10_copyAll_12 rfl rfl ?_
      obtain ⟨g2, h⟩ := bw_gd h
      refine rw_iald dX10_copyAll_13 (shM ha0) (klM ha0) (bw_in g2) ?_
      refine rw_iast dX10_copyAll_14 (shM ha1) (klM ha1) (bw_in g2) ?_
      obtain ⟨M3, hM3, h⟩ := bw_mlE h
      refine rw_m hM3.symm ?_
      refine rw_inc dX10_copyAll_15 rfl (by decide) ?_
      refine rw_goto (tgt := 2) dX10_copyAll_18 (by decide) ?_
      exact rw_sub (rw_lc rfl (rw_lc rfl (rw_lc rfl rw_lz))) (ih (v2 + 1) M3 h)
set_option maxRecDepth 20000 in
set_option maxHeartbeats 1000000 in
theorem ct_X10_copyAll {w : WE} {M : Mem} {a0 : Nat} {a1 : Nat} (ha0 : bw_iM a0) (ha1 : bw_iM a1) {out : Mem} (h : f_X10_copyAll M a0 a1 = some out) : Ct w 0 yX10_copyAll cX10_copyAll 3 none [.ref (bw_ad w a0), .ref (bw_ad w a1)] M (bw_pv out) := by
  refine Ct.of (own := RX10) rfl (by decide) (by intro v hv; simp only [List.mem_cons, List.not_mem_nil, or_false] at hv; rcases hv with rfl | rfl <;> first | rfl | exact bw_cat_rf _) (Nat.le_of_ble_eq_true rfl) ?_
  unfold f_X10_copyAll at h
  show RW w 0 0 0 0 0 cX10_copyAll RX10 3 none (bw_Z w (bw_pv out)) 0 [(0, .ref (bw_ad w a0)), (1, .ref (bw_ad w a1))] [] M
  refine rw_iconst (v := 0) dX10_copyAll_0 (by decide) ?_
  refine rw_istore_n dX10_copyAll_1 rfl (by decide) ?_
  exact rw_sub (rw_lc rfl (rw_lc rfl (rw_lc rfl rw_lz))) (th_X10_copyAll_L2 ha0 ha1 bw_fu (0 : Int32) M h)
set_option maxRecDepth 20000 in
set_option maxHeartbeats 1000000 in
theorem ct_X10_isBook {w : WE} {M : Mem} {v1 : Int32} {out : Int32} (h : f_X10_isBook M v1 = out) : Ct w 1 yX10_isBook cX10_isBook 2 (some .boolean) [.ref (bw_ad w 93), .int v1] M (bw_pz (out) M) := by
  refine Ct.of (own := RX10) rfl (by decide) (by intro v hv; simp only [List.mem_cons, List.not_mem_nil, or_false] at hv; rcases hv with rfl | rfl <;> first | rfl | exact bw_cat_rf _) (Nat.le_of_ble_eq_true rfl) ?_
  unfold f_X10_isBook at h
  show RW w 1 0 0 0 0 cX10_isBook RX10 2 (some .boolean) (bw_Z w (bw_pz (out) M)) 0 [(0, .ref (bw_ad w 93)), (1, .int v1)] [] M
  refine rw_iload_n dX10_isBook_0 rfl rfl ?_
  refine rw_iconst (v := 0) dX10_isBook_1 (by decide) ?_
  refine rw_aload_n dX10_isBook_2 rfl rfl ?_
  refine rw_get dX10_isBook_3 fl_RX10_9 (sh_m w) (bw_kl (by decide)) rfl ?_
  refine rw_iconst (v := 4) dX10_isBook_6 (by decide) ?_
  refine rw_iald dX10_isBook_7 (sh_m_now w) (bw_kl (by decide)) (bw_in (show bw_ib (4 : Int32) 1530 = true by decide)) ?_
  refine rw_iconst (v := 1) dX10_isBook_8 (by decide) ?_
  refine rw_isub dX10_isBook_9 ?_
  refine rw_callS3 dX10_isBook_10 ln_RX10_117 ms_X10_in (ct_X10_in rfl) (Nat.le_of_ble_eq_true rfl) (Nat.le_of_ble_eq_true rfl) (bw_kkz (fun z1 => ?_))
  subst h
  exact rw_zret dX10_isBook_13 z1 ⟨rfl, rfl, z1⟩
set_option maxRecDepth 20000 in
set_option maxHeartbeats 1000000 in
theorem ct_X10_isBoard {w : WE} {M : Mem} {v1 : Int32} {out : Int32} (h : f_X10_isBoard M v1 = out) : Ct w 1 yX10_isBoard cX10_isBoard 2 (some .boolean) [.ref (bw_ad w 93), .int v1] M (bw_pz (out) M) := by
  refine Ct.of (own := RX10) rfl (by decide) (by intro v hv; simp only [List.mem_cons, List.not_mem_nil, or_false] at hv; rcases hv with rfl | rfl <;> first | rfl | exact bw_cat_rf _) (Nat.le_of_ble_eq_true rfl) ?_
  unfold f_X10_isBoard at h
  show RW w 1 0 0 0 0 cX10_isBoard RX10 2 (some .boolean) (bw_Z w (bw_pz (out) M)) 0 [(0, .ref (bw_ad w 93)), (1, .int v1)] [] M
  refine rw_iload_n dX10_isBoard_0 rfl rfl ?_
  refine rw_iconst (v := 0) dX10_isBoard_1 (by decide) ?_
  refine rw_aload_n dX10_isBoard_2 rfl rfl ?_
  refine rw_get dX10_isBoard_3 fl_RX10_9 (sh_m w) (bw_kl (by decide)) rfl ?_
  refine rw_iconst (v := 5) dX10_isBoard_6 (by decide) ?_
  refine rw_iald dX10_isBoard_7 (sh_m_now w) (bw_kl (by decide)) (bw_in (show bw_ib (5 : Int32) 1530 = true by decide)) ?_
  refine rw_iconst (v := 1) dX10_isBoard_8 (by decide) ?_
  refine rw_isub dX10_isBoard_9 ?_
  refine rw_callS3 dX10_isBoard_10 ln_RX10_117 ms_X10_in (ct_X10_in rfl) (Nat.le_of_ble_eq_true rfl) (Nat.le_of_ble_eq_true rfl) (bw_kkz (fun z1 => ?_))
  subst h
  exact rw_zret dX10_isBoard_13 z1 ⟨rfl, rfl, z1⟩
set_option maxRecDepth 20000 in
set_option maxHeartbeats 1000000 in
theorem ct_X10_isSize {w : WE} {M : Mem} {v0 : Int32} {out : Int32} (h : f_X10_isSize v0 = out) : Ct w 1 yX10_isSize cX10_isSize 1 (some .boolean) [.int v0] M (bw_pz (out) M) := by
  refine Ct.of (own := RX10) rfl (by decide) (by intro v hv; rw [List.mem_singleton.mp hv]; first | rfl | exact bw_cat_rf _) (Nat.le_of_ble_eq_true rfl) ?_
  unfold f_X10_isSize at h
  show RW w 1 0 0 0 0 cX10_isSize RX10 1 (some .boolean) (bw_Z w (bw_pz (out) M)) 0 [(0, .int v0)] [] M
  refine rw_iload_n dX10_isSize_0 rfl rfl ?_
  refine rw_bipush (v := 100) dX10_isSize_1 (by decide) ?_
  refine rw_sipush (v := 9999) dX10_isSize_3 (by decide) ?_
  refine rw_callS3 dX10_isSize_6 ln_RX10_117 ms_X10_in (ct_X10_in rfl) (Nat.le_of_ble_eq_true rfl) (Nat.le_of_ble_eq_true rfl) (bw_kkz (fun z1 => ?_))
  have key : RW w 1 0 0 0 0 cX10_isSize RX10 1 (some .boolean) (bw_Z w (bw_pz (out) M)) 24 [] [.int (if (f_X10_in v0 (100 : Int32) (9999 : Int32)) = 0 then (0 : Int32) else (if (bw_rem v0 (100 : Int32)) ≤ 0 then (0 : Int32) else (1 : Int32)))] M := by
    subst h
    exact rw_zret dX10_isSize_24 (by (repeat' split) <;> first | exact bw_n0 | exact bw_n1) ⟨rfl, rfl, (by (repeat' split) <;> first | exact bw_n0 | exact bw_n1)⟩
  refine rw_if_eq (tgt := 23) dX10_isSize_9 (by decide) (fun c2 => ?_) (fun c2 => ?_)
  · refine rw_iconst (v := 0) dX10_isSize_23 (by decide) ?_
    simp only [if_pos c2] at key
    exact rw_sub rw_lz key
  · refine rw_iload_n dX10_isSize_12 rfl rfl ?_
    refine rw_bipush (v := 100) dX10_isSize_13 (by decide) ?_
    refine rw_irem dX10_isSize_15 (by decide) ?_
    refine rw_if_le (tgt := 23) dX10_isSize_16 (by decide) (fun c3 => ?_) (fun c3 => ?_)
    · refine rw_iconst (v := 0) dX10_isSize_23 (by decide) ?_
      simp only [if_neg c2, if_pos c3] at key
      exact rw_sub rw_lz key
    · refine rw_iconst (v := 1) dX10_isSize_19 (by decide) ?_
      refine rw_goto (tgt := 24) dX10_isSize_20 (by decide) ?_
      simp only [if_neg c2, if_neg c3] at key
      exact rw_sub rw_lz key
set_option maxRecDepth 20000 in
set_option maxHeartbeats 1000000 in
theorem ct_X10_book4 {w : WE} {M : Mem} {v1 : Int32} {v2 : Int32} {out : Int32} (h : f_X10_book4 M v1 v2 = some out) : Ct w 0 yX10_book4 cX10_book4 3 (some .int) [.ref (bw_ad w 93), .int v1, .int v2] M (bw_pi (out) M) := by
  refine Ct.of (own := RX10) rfl (by decide) (by intro v hv; simp only [List.mem_cons, List.not_mem_nil, or_false] at hv; rcases hv with rfl | rfl | rfl <;> first | rfl | exact bw_cat_rf _) (Nat.le_of_ble_eq_true rfl) ?_
  unfold f_X10_book4 at h
  show RW w 0 0 0 0 0 cX10_book4 RX10 3 (some .int) (bw_Z w (bw_pi (out) M)) 0 [(0, .ref (bw_ad w 93)), (1, .int v1), (2, .int v2)] [] M
  refine rw_aload_n dX10_book4_0 rfl rfl ?_
  refine rw_get dX10_book4_1 fl_RX10_9 (sh_m w) (bw_kl (by decide)) rfl ?_
  refine rw_bipush (v := 14) dX10_book4_4 (by decide) ?_
  refine rw_iconst (v := 4) dX10_book4_6 (by decide) ?_
  refine rw_iload_n dX10_book4_7 rfl rfl ?_
  refine rw_imul dX10_book4_8 ?_
  refine rw_iadd dX10_book4_9 ?_
  refine rw_iload_n dX10_book4_10 rfl rfl ?_
  refine rw_iadd dX10_book4_11 ?_
  obtain ⟨g1, h⟩ := bw_gd h
  refine rw_iald dX10_book4_12 (sh_m_now w) (bw_kl (by decide)) (bw_in g1) ?_
  have h := Option.some.inj h
  subst h
  exact rw_iret dX10_book4_13 ⟨rfl, rfl⟩
set_option maxRecDepth 20000 in
set_option maxHeartbeats 1000000 in
theorem ct_X10_board4 {w : WE} {M : Mem} {v1 : Int32} {v2 : Int32} {out : Int32} (h : f_X10_board4 M v1 v2 = some out) : Ct w 0 yX10_board4 cX10_board4 3 (some .int) [.ref (bw_ad w 93), .int v1, .int v2] M (bw_pi (out) M) := by
  refine Ct.of (own := RX10) rfl (by decide) (by intro v hv; simp only [List.mem_cons, List.not_mem_nil, or_false] at hv; rcases hv with rfl | rfl | rfl <;> first | rfl | exact bw_cat_rf _) (Nat.le_of_ble_eq_true rfl) ?_
  unfold f_X10_board4 at h
  show RW w 0 0 0 0 0 cX10_board4 RX10 3 (some .int) (bw_Z w (bw_pi (out) M)) 0 [(0, .ref (bw_ad w 93)), (1, .int v1), (2, .int v2)] [] M
  refine rw_aload_n dX10_board4_0 rfl rfl ?_
  refine rw_get dX10_board4_1 fl_RX10_9 (sh_m w) (bw_kl (by decide)) rfl ?_
  refine rw_bipush (v := 110) dX10_board4_4 (by decide) ?_
  refine rw_iconst (v := 4) dX10_board4_6 (by decide) ?_
  refine rw_iload_n dX10_board4_7 rfl rfl ?_
  refine rw_imul dX10_board4_8 ?_
  refine rw_iadd dX10_board4_9 ?_
  refine rw_iload_n dX10_board4_10 rfl rfl ?_
  refine rw_iadd dX10_board4_11 ?_
  obtain ⟨g1, h⟩ := bw_gd h
  refine rw_iald dX10_board4_12 (sh_m_now w) (bw_kl (by decide)) (bw_in g1) ?_
  have h := Option.some.inj h
  subst h
  exact rw_iret dX10_board4_13 ⟨rfl, rfl⟩
set_option maxRecDepth 20000 in
set_option maxHeartbeats 1000000 in
theorem ct_X10_comes {w : WE} {M : Mem} {v1 : Int32} {v2 : Int32} {v3 : Int32} {out : Mem} (h : f_X10_comes M v1 v2 v3 = some out) : Ct w 0 yX10_comes cX10_comes 5 none [.ref (bw_ad w 93), .int v1, .int v2, .int v3] M (bw_pv out) := by
  refine Ct.of (own := RX10) rfl (by decide) (by intro v hv; simp only [List.mem_cons, List.not_mem_nil, or_false] at hv; rcases hv with rfl | rfl | rfl | rfl <;> first | rfl | exact bw_cat_rf _) (Nat.le_of_ble_eq_true rfl) ?_
  unfold f_X10_comes at h
  show RW w 0 0 0 0 0 cX10_comes RX10 5 none (bw_Z w (bw_pv out)) 0 [(0, .ref (bw_ad w 93)), (1, .int v1), (2, .int v2), (3, .int v3)] [] M
  refine rw_bipush (v := 14) dX10_comes_0 (by decide) ?_
  refine rw_iconst (v := 4) dX10_comes_2 (by decide) ?_
  refine rw_aload_n dX10_comes_3 rfl rfl ?_
  refine rw_get dX10_comes_4 fl_RX10_9 (sh_m w) (bw_kl (by decide)) rfl ?_
  refine rw_iconst (v := 4) dX10_comes_7 (by decide) ?_
  refine rw_iald dX10_comes_8 (sh_m_now w) (bw_kl (by decide)) (bw_in (show bw_ib (4 : Int32) 1530 = true by decide)) ?_
  refine rw_imul dX10_comes_9 ?_
  refine rw_iadd dX10_comes_10 ?_
  obtain ⟨x1, hx1, h⟩ := bw_mlE h
  refine rw_ti hx1 ?_
  refine rw_istore dX10_comes_11 (by decide) ?_
  refine rw_aload_n dX10_comes_13 rfl rfl ?_
  refine rw_get dX10_comes_14 fl_RX10_9 (sh_m w) (bw_kl (by decide)) rfl ?_
  refine rw_iload dX10_comes_17 rfl ?_
  refine rw_iload_n dX10_comes_19 rfl rfl ?_
  obtain ⟨g2, h⟩ := bw_gd h
  refine rw_iast dX10_comes_20 (sh_m_now w) (bw_kl (by decide)) (bw_in g2) ?_
  obtain ⟨M3, hM3, h⟩ := bw_mlE h
  refine rw_m hM3.symm ?_
  refine rw_aload_n dX10_comes_21 rfl rfl ?_
  refine rw_get dX10_comes_22 fl_RX10_9 (sh_m w) (bw_kl (by decide)) rfl ?_
  refine rw_iload dX10_comes_25 rfl ?_
  refine rw_iconst (v := 1) dX10_comes_27 (by decide) ?_
  refine rw_iadd dX10_comes_28 ?_
  refine rw_iload_n dX10_comes_29 rfl rfl ?_
  obtain ⟨g4, h⟩ := bw_gd h
  refine rw_iast dX10_comes_30 (sh_m_now w) (bw_kl (by decide)) (bw_in g4) ?_
  obtain ⟨M5, hM5, h⟩ := bw_mlE h
  refine rw_m hM5.symm ?_
  refine rw_aload_n dX10_comes_31 rfl rfl ?_
  refine rw_get dX10_comes_32 fl_RX10_9 (sh_m w) (bw_kl (by decide)) rfl ?_
  refine rw_iload dX10_comes_35 rfl ?_
  refine rw_iconst (v := 2) dX10_comes_37 (by decide) ?_
  refine rw_iadd dX10_comes_38 ?_
  refine rw_iload_n dX10_comes_39 rfl rfl ?_
  obtain ⟨g6, h⟩ := bw_gd h
  refine rw_iast dX10_comes_40 (sh_m_now w) (bw_kl (by decide)) (bw_in g6) ?_
  obtain ⟨M7, hM7, h⟩ := bw_mlE h
  refine rw_m hM7.symm ?_
  refine rw_aload_n dX10_comes_41 rfl rfl ?_
  refine rw_get dX10_comes_42 fl_RX10_9 (sh_m w) (bw_kl (by decide)) rfl ?_
  refine rw_iload dX10_comes_45 rfl ?_
  refine rw_iconst (v := 3) dX10_comes_47 (by decide) ?_
  refine rw_iadd dX10_comes_48 ?_
  refine rw_iconst (v := 0) dX10_comes_49 (by decide) ?_
  obtain ⟨g8, h⟩ := bw_gd h
  refine rw_iast dX10_comes_50 (sh_m_now w) (bw_kl (by decide)) (bw_in g8) ?_
  obtain ⟨M9, hM9, h⟩ := bw_mlE h
  refine rw_m hM9.symm ?_
  refine rw_aload_n dX10_comes_51 rfl rfl ?_
  refine rw_get dX10_comes_52 fl_RX10_9 (sh_m w) (bw_kl (by decide)) rfl ?_
  refine rw_iconst (v := 4) dX10_comes_55 (by decide) ?_
  refine rw_dup2 dX10_comes_56 rfl rfl ?_
  refine rw_iald dX10_comes_57 (sh_m_now w) (bw_kl (by decide)) (bw_in (show bw_ib (4 : Int32) 1530 = true by decide)) ?_
  refine rw_iconst (v := 1) dX10_comes_58 (by decide) ?_
  refine rw_iadd dX10_comes_59 ?_
  refine rw_iast dX10_comes_60 (sh_m_now w) (bw_kl (by decide)) (bw_in (show bw_ib (4 : Int32) 1530 = true by decide)) ?_
  obtain ⟨M10, hM10, h⟩ := bw_mlE h
  refine rw_m hM10.symm ?_
  have h := Option.some.inj h
  subst h
  exact rw_vret dX10_comes_61 ⟨rfl, rfl⟩
set_option maxRecDepth 20000 in
set_option maxHeartbeats 1000000 in
theorem ct_X10_book {w : WE} {M : Mem} {v1 : Int32} {v2 : Int32} {out : Int32 × Mem} (h : f_X10_book M v1 v2 = some out) : Ct w 2 yX10_book cX10_book 3 (some .int) [.ref (bw_ad w 93), .int v1, .int v2] M (bw_pi (out.1) out.2) := by
  refine Ct.of (own := RX10) rfl (by decide) (by intro v hv; simp only [List.mem_cons, List.not_mem_nil, or_false] at hv; rcases hv with rfl | rfl | rfl <;> first | rfl | exact bw_cat_rf _) (Nat.le_of_ble_eq_true rfl) ?_
  unfold f_X10_book at h
  show RW w 2 0 0 0 0 cX10_book RX10 3 (some .int) (bw_Z w (bw_pi (out.1) out.2)) 0 [(0, .ref (bw_ad w 93)), (1, .int v1), (2, .int v2)] [] M
  refine rw_iload_n dX10_book_0 rfl rfl ?_
  refine rw_callS1 dX10_book_1 ln_RX10_121 ms_X10_isSize (ct_X10_isSize rfl) (Nat.le_of_ble_eq_true rfl) (Nat.le_of_ble_eq_true rfl) (bw_kkz (fun z1 => ?_))
  refine rw_if_eq (tgt := 17) dX10_book_4 (by decide) (fun c2 => ?_) (fun c2 => ?_)
  · have h := bw_it c2 h
    refine rw_ldc dX10_book_17 cn_RX10_125 ?_
    have h := Option.some.inj h
    subst h
    exact rw_iret dX10_book_19 ⟨rfl, rfl⟩
  · have h := bw_if c2 h
    refine rw_iload_n dX10_book_7 rfl rfl ?_
    refine rw_iconst (v := 0) dX10_book_8 (by decide) ?_
    refine rw_bipush (v := 7) dX10_book_9 (by decide) ?_
    refine rw_callS3 dX10_book_11 ln_RX10_117 ms_X10_in (ct_X10_in rfl) (Nat.le_of_ble_eq_true rfl) (Nat.le_of_ble_eq_true rfl) (bw_kkz (fun z3 => ?_))
    refine rw_if_ne (tgt := 20) dX10_book_14 (by decide) (fun c4 => ?_) (fun c4 => ?_)
    · have h := bw_if c4 h
      refine rw_aload_n dX10_book_20 rfl rfl ?_
      refine rw_get dX10_book_21 fl_RX10_9 (sh_m w) (bw_kl (by decide)) rfl ?_
      refine rw_iconst (v := 4) dX10_book_24 (by decide) ?_
      refine rw_iald dX10_book_25 (sh_m_now w) (bw_kl (by decide)) (bw_in (show bw_ib (4 : Int32) 1530 = true by decide)) ?_
      refine rw_bipush (v := 24) dX10_book_26 (by decide) ?_
      refine rw_icmp_ne (tgt := 34) dX10_book_28 (by decide) (fun c5 => ?_) (fun c5 => ?_)
      · have h := bw_if c5 h
        refine rw_aload_n dX10_book_34 rfl rfl ?_
        refine rw_iload_n dX10_book_35 rfl rfl ?_
        refine rw_bipush (v := 100) dX10_book_36 (by decide) ?_
        refine rw_idiv dX10_book_38 (by decide) ?_
        refine rw_iload_n dX10_book_39 rfl rfl ?_
        refine rw_bipush (v := 100) dX10_book_40 (by decide) ?_
        refine rw_irem dX10_book_42 (by decide) ?_
        refine rw_iload_n dX10_book_43 rfl rfl ?_
        obtain ⟨q6, hq6, h⟩ := bw_bd h
        refine rw_callV3 dX10_book_44 ln_RX10_127 mv_X10_comes (sh_m w) (bw_kl (by decide)) (ct_X10_comes hq6) (Nat.le_of_ble_eq_true rfl) (Nat.le_of_ble_eq_true rfl) (bw_kkv ?_)
        refine rw_aload_n dX10_book_47 rfl rfl ?_
        refine rw_get dX10_book_48 fl_RX10_9 (sh_m w) (bw_kl (by decide)) rfl ?_
        refine rw_iconst (v := 4) dX10_book_51 (by decide) ?_
        refine rw_iald dX10_book_52 (sh_m_now w) (bw_kl (by decide)) (bw_in (show bw_ib (4 : Int32) 1530 = true by decide)) ?_
        refine rw_iconst (v := 1) dX10_book_53 (by decide) ?_
        refine rw_isub dX10_book_54 ?_
        have h := Option.some.inj h
        subst h
        exact rw_iret dX10_book_55 ⟨rfl, rfl⟩
      · have h := bw_it c5 h
        refine rw_ldc dX10_book_31 cn_RX10_126 ?_
        have h := Option.some.inj h
        subst h
        exact rw_iret dX10_book_33 ⟨rfl, rfl⟩
    · have h := bw_it c4 h
      refine rw_ldc dX10_book_17 cn_RX10_125 ?_
      have h := Option.some.inj h
      subst h
      exact rw_iret dX10_book_19 ⟨rfl, rfl⟩
set_option maxRecDepth 20000 in
set_option maxHeartbeats 1000000 in
theorem th_X10_asks_L33 {w : WE} {out : Mem} : ∀ (n : Nat) (v1 : Int32) (M : Mem), f_X10_asks_L33 n v1 M = some out → RW w 0 0 0 0 0 cX10_asks RX10 2 none (bw_Z w (bw_pv out)) 33 [(0, .ref (bw_ad w 93)), (1, .int v1)] [] M := by
  intro n
  induction n with
  | zero => intro v1 M h; cases h
  | succ n ih =>
    intro v1 M h
    rw [f_X10_asks_L33] at h
    refine rw_iload_n dX10_asks_33 rfl rfl ?_
    refine rw_aload_n dX10_asks_34 rfl rfl ?_
    refine rw_get dX10_asks_35 fl_RX10_194 (sh_m w) (bw_kl (by decide)) rfl ?_
    refine rw_icmp_ge (tgt := 62) dX10_asks_38 (by decide) (fun c4 => ?_) (fun c4 => ?_)
    · have h := bw_it c4 h
      have h := Option.some.inj h
      subst h
      exact rw_vret dX10_asks_62 ⟨rfl, rfl⟩
    · have h := bw_if c4 h
      refine rw_aload_n dX10_asks_41 rfl rfl ?_
      refine rw_get dX10_asks_42 fl_RX10_29 (sh_m w) (bw_kl (by decide)) rfl ?_
      refine rw_iload_n dX10_asks_45 rfl rfl ?_
      refine rw_aload_n dX10_asks_46 rfl rfl ?_
      refine rw_get dX10_asks_47 fl_RX10_9 (sh_m w) (bw_kl (by decide)) rfl ?_
      refine rw_bipush (v := 8) dX10_asks_50 (by decide) ?_
      refine rw_iload_n dX10_asks_52 rfl rfl ?_
      refine rw_iadd dX10_asks_53 ?_
      obtain ⟨g5, h⟩ := bw_gd h
      refine rw_iald dX10_asks_54 (sh_m_now w) (bw_kl (by decide)) (bw_in g5) ?_
      obtain ⟨g6, h⟩ := bw_gd h
      refine rw_iast dX10_asks_55 (sh_m_may w) (bw_kl (by decide)) (bw_in g6) ?_
      obtain ⟨M7, hM7, h⟩ := bw_mlE h
      refine rw_m hM7.symm ?_
      refine rw_inc dX10_asks_56 rfl (by decide) ?_
      refine rw_goto (tgt := 33) dX10_asks_59 (by decide) ?_
      exact rw_sub (rw_lc rfl (rw_lc rfl rw_lz)) (ih (v1 + 1) M7 h)
set_option maxRecDepth 20000 in
set_option maxHeartbeats 1000000 in
theorem ct_X10_asks {w : WE} {M : Mem} {out : Mem} (h : f_X10_asks M = some out) : Ct w 0 yX10_asks cX10_asks 2 none [.ref (bw_ad w 93)] M (bw_pv out) := by
  refine Ct.of (own := RX10) rfl (by decide) (by intro v hv; rw [List.mem_singleton.mp hv]; first | rfl | exact bw_cat_rf _) (Nat.le_of_ble_eq_true rfl) ?_
  unfold f_X10_asks at h
  show RW w 0 0 0 0 0 cX10_asks RX10 2 none (bw_Z w (bw_pv out)) 0 [(0, .ref (bw_ad w 93))] [] M
  refine rw_aload_n dX10_asks_0 rfl rfl ?_
  refine rw_dup dX10_asks_1 rfl ?_
  refine rw_get dX10_asks_2 fl_RX10_188 (sh_m w) (bw_kl (by decide)) rfl ?_
  refine rw_iconst (v := 1) dX10_asks_5 (by decide) ?_
  refine rw_iadd dX10_asks_6 ?_
  refine rw_puti dX10_asks_7 fl_RX10_188 fp_10_13 (sh_m w) (bw_kl (by decide)) (by decide) (fun _ => rfl) (fun _ => Nat.le_of_ble_eq_true rfl) ?_
  obtain ⟨M1, hM1, h⟩ := bw_mlE h
  refine rw_m hM1.symm ?_
  refine rw_aload_n dX10_asks_10 rfl rfl ?_
  refine rw_aload_n dX10_asks_11 rfl rfl ?_
  refine rw_get dX10_asks_12 fl_RX10_9 (sh_m w) (bw_kl (by decide)) rfl ?_
  refine rw_iconst (v := 1) dX10_asks_15 (by decide) ?_
  refine rw_iald dX10_asks_16 (sh_m_now w) (bw_kl (by decide)) (bw_in (show bw_ib (1 : Int32) 1530 = true by decide)) ?_
  refine rw_puti dX10_asks_17 fl_RX10_191 fp_10_8 (sh_m w) (bw_kl (by decide)) (by decide) (fun _ => rfl) (fun _ => Nat.le_of_ble_eq_true rfl) ?_
  obtain ⟨M2, hM2, h⟩ := bw_mlE h
  refine rw_m hM2.symm ?_
  refine rw_aload_n dX10_asks_20 rfl rfl ?_
  refine rw_aload_n dX10_asks_21 rfl rfl ?_
  refine rw_get dX10_asks_22 fl_RX10_9 (sh_m w) (bw_kl (by decide)) rfl ?_
  refine rw_bipush (v := 7) dX10_asks_25 (by decide) ?_
  refine rw_iald dX10_asks_27 (sh_m_now w) (bw_kl (by decide)) (bw_in (show bw_ib (7 : Int32) 1530 = true by decide)) ?_
  refine rw_puti dX10_asks_28 fl_RX10_194 fp_10_10 (sh_m w) (bw_kl (by decide)) (by decide) (fun _ => rfl) (fun _ => Nat.le_of_ble_eq_true rfl) ?_
  obtain ⟨M3, hM3, h⟩ := bw_mlE h
  refine rw_m hM3.symm ?_
  refine rw_iconst (v := 0) dX10_asks_31 (by decide) ?_
  refine rw_istore_n dX10_asks_32 rfl (by decide) ?_
  exact rw_sub (rw_lc rfl (rw_lc rfl rw_lz)) (th_X10_asks_L33 bw_fu (0 : Int32) M3 h)
set_option maxRecDepth 20000 in
set_option maxHeartbeats 1000000 in
theorem ct_X10_takesBook {w : WE} {M : Mem} {v1 : Int32} {v2 : Int32} {v3 : Int32} {out : Mem} (h : f_X10_takesBook M v1 v2 v3 = some out) : Ct w 0 yX10_takesBook cX10_takesBook 4 none [.ref (bw_ad w 93), .int v1, .int v2, .int v3] M (bw_pv out) := by
  refine Ct.of (own := RX10) rfl (by decide) (by intro v hv; simp only [List.mem_cons, List.not_mem_nil, or_false] at hv; rcases hv with rfl | rfl | rfl | rfl <;> first | rfl | exact bw_cat_rf _) (Nat.le_of_ble_eq_true rfl) ?_
  unfold f_X10_takesBook at h
  show RW w 0 0 0 0 0 cX10_takesBook RX10 4 none (bw_Z w (bw_pv out)) 0 [(0, .ref (bw_ad w 93)), (1, .int v1), (2, .int v2), (3, .int v3)] [] M
  refine rw_aload_n dX10_takesBook_0 rfl rfl ?_
  refine rw_get dX10_takesBook_1 fl_RX10_19 (sh_m w) (bw_kl (by decide)) rfl ?_
  refine rw_aload_n dX10_takesBook_4 rfl rfl ?_
  refine rw_get dX10_takesBook_5 fl_RX10_206 (sh_m w) (bw_kl (by decide)) rfl ?_
  refine rw_iload_n dX10_takesBook_8 rfl rfl ?_
  obtain ⟨g1, h⟩ := bw_gd h
  refine rw_iast dX10_takesBook_9 (sh_m_heights w) (bw_kl (by decide)) (bw_in g1) ?_
  obtain ⟨M2, hM2, h⟩ := bw_mlE h
  refine rw_m hM2.symm ?_
  refine rw_aload_n dX10_takesBook_10 rfl rfl ?_
  refine rw_get dX10_takesBook_11 fl_RX10_22 (sh_m w) (bw_kl (by decide)) rfl ?_
  refine rw_aload_n dX10_takesBook_14 rfl rfl ?_
  refine rw_get dX10_takesBook_15 fl_RX10_206 (sh_m w) (bw_kl (by decide)) rfl ?_
  refine rw_iload_n dX10_takesBook_18 rfl rfl ?_
  obtain ⟨g3, h⟩ := bw_gd h
  refine rw_iast dX10_takesBook_19 (sh_m_thicks w) (bw_kl (by decide)) (bw_in g3) ?_
  obtain ⟨M4, hM4, h⟩ := bw_mlE h
  refine rw_m hM4.symm ?_
  refine rw_aload_n dX10_takesBook_20 rfl rfl ?_
  refine rw_get dX10_takesBook_21 fl_RX10_25 (sh_m w) (bw_kl (by decide)) rfl ?_
  refine rw_aload_n dX10_takesBook_24 rfl rfl ?_
  refine rw_get dX10_takesBook_25 fl_RX10_206 (sh_m w) (bw_kl (by decide)) rfl ?_
  refine rw_iload_n dX10_takesBook_28 rfl rfl ?_
  obtain ⟨g5, h⟩ := bw_gd h
  refine rw_zast dX10_takesBook_29 (sh_m_tied w) (bw_kl (by decide)) (bw_in g5) ?_
  obtain ⟨M6, hM6, h⟩ := bw_mlE h
  refine rw_m hM6.symm ?_
  refine rw_aload_n dX10_takesBook_30 rfl rfl ?_
  refine rw_dup dX10_takesBook_31 rfl ?_
  refine rw_get dX10_takesBook_32 fl_RX10_206 (sh_m w) (bw_kl (by decide)) rfl ?_
  refine rw_iconst (v := 1) dX10_takesBook_35 (by decide) ?_
  refine rw_iadd dX10_takesBook_36 ?_
  refine rw_puti dX10_takesBook_37 fl_RX10_206 fp_10_7 (sh_m w) (bw_kl (by decide)) (by decide) (fun _ => rfl) (fun _ => Nat.le_of_ble_eq_true rfl) ?_
  obtain ⟨M7, hM7, h⟩ := bw_mlE h
  refine rw_m hM7.symm ?_
  have h := Option.some.inj h
  subst h
  exact rw_vret dX10_takesBook_40 ⟨rfl, rfl⟩
set_option maxRecDepth 20000 in
set_option maxHeartbeats 1000000 in
theorem th_X10_takesAll_L7 {w : WE} {out : Mem} : ∀ (n : Nat) (v1 : Int32) (M : Mem), f_X10_takesAll_L7 n v1 M = some out → RW w 1 0 0 0 0 cX10_takesAll RX10 2 none (bw_Z w (bw_pv out)) 7 [(0, .ref (bw_ad w 93)), (1, .int v1)] [] M := by
  intro n
  induction n with
  | zero => intro v1 M h; cases h
  | succ n ih =>
    intro v1 M h
    rw [f_X10_takesAll_L7] at h
    refine rw_iload_n dX10_takesAll_7 rfl rfl ?_
    refine rw_aload_n dX10_takesAll_8 rfl rfl ?_
    refine rw_get dX10_takesAll_9 fl_RX10_9 (sh_m w) (bw_kl (by decide)) rfl ?_
    refine rw_iconst (v := 4) dX10_takesAll_12 (by decide) ?_
    refine rw_iald dX10_takesAll_13 (sh_m_now w) (bw_kl (by decide)) (bw_in (show bw_ib (4 : Int32) 1530 = true by decide)) ?_
    refine rw_icmp_ge (tgt := 54) dX10_takesAll_14 (by decide) (fun c2 => ?_) (fun c2 => ?_)
    · have h := bw_it c2 h
      have h := Option.some.inj h
      subst h
      exact rw_vret dX10_takesAll_54 ⟨rfl, rfl⟩
    · have h := bw_if c2 h
      refine rw_aload_n dX10_takesAll_17 rfl rfl ?_
      refine rw_aload_n dX10_takesAll_18 rfl rfl ?_
      refine rw_iload_n dX10_takesAll_19 rfl rfl ?_
      refine rw_iconst (v := 0) dX10_takesAll_20 (by decide) ?_
      obtain ⟨q3, hq3, h⟩ := bw_bd h
      refine rw_callV2 dX10_takesAll_21 ln_RX10_134 mv_X10_book4 (sh_m w) (bw_kl (by decide)) (ct_X10_book4 hq3) (Nat.le_of_ble_eq_true rfl) (Nat.le_of_ble_eq_true rfl) (bw_kki ?_)
      refine rw_aload_n dX10_takesAll_24 rfl rfl ?_
      refine rw_iload_n dX10_takesAll_25 rfl rfl ?_
      refine rw_iconst (v := 1) dX10_takesAll_26 (by decide) ?_
      obtain ⟨q4, hq4, h⟩ := bw_bd h
      refine rw_callV2 dX10_takesAll_27 ln_RX10_134 mv_X10_book4 (sh_m w) (bw_kl (by decide)) (ct_X10_book4 hq4) (Nat.le_of_ble_eq_true rfl) (Nat.le_of_ble_eq_true rfl) (bw_kki ?_)
      refine rw_aload_n dX10_takesAll_30 rfl rfl ?_
      refine rw_iload_n dX10_takesAll_31 rfl rfl ?_
      refine rw_iconst (v := 3) dX10_takesAll_32 (by decide) ?_
      obtain ⟨q5, hq5, h⟩ := bw_bd h
      refine rw_callV2 dX10_takesAll_33 ln_RX10_134 mv_X10_book4 (sh_m w) (bw_kl (by decide)) (ct_X10_book4 hq5) (Nat.le_of_ble_eq_true rfl) (Nat.le_of_ble_eq_true rfl) (bw_kki ?_)
      refine rw_iconst (v := 1) dX10_takesAll_36 (by decide) ?_
      have key : RW w 1 0 0 0 0 cX10_takesAll RX10 2 none (bw_Z w (bw_pv out)) 45 [(0, .ref (bw_ad w 93)), (1, .int v1)] [.int (if q5 = (1 : Int32) then (1 : Int32) else (0 : Int32)), .int q4, .int q3, .ref (bw_ad w 93)] M := by
        obtain ⟨q7, hq7, h⟩ := bw_bd h
        refine rw_callV3 dX10_takesAll_45 ln_RX10_209 mv_X10_takesBook (sh_m w) (bw_kl (by decide)) (ct_X10_takesBook hq7) (Nat.le_of_ble_eq_true rfl) (Nat.le_of_ble_eq_true rfl) (bw_kkv ?_)
        refine rw_inc dX10_takesAll_48 rfl (by decide) ?_
        refine rw_goto (tgt := 7) dX10_takesAll_51 (by decide) ?_
        exact rw_sub (rw_lc rfl (rw_lc rfl rw_lz)) (ih (v1 + 1) q7 h)
      refine rw_icmp_ne (tgt := 44) dX10_takesAll_37 (by decide) (fun c6 => ?_) (fun c6 => ?_)
      · refine rw_iconst (v := 0) dX10_takesAll_44 (by decide) ?_
        simp only [if_neg c6] at key
        exact rw_sub (rw_lc rfl (rw_lc rfl rw_lz)) key
      · refine rw_iconst (v := 1) dX10_takesAll_40 (by decide) ?_
        refine rw_goto (tgt := 45) dX10_takesAll_41 (by decide) ?_
        simp only [if_pos c6] at key
        exact rw_sub (rw_lc rfl (rw_lc rfl rw_lz)) key
set_option maxRecDepth 20000 in
set_option maxHeartbeats 1000000 in
theorem ct_X10_takesAll {w : WE} {M : Mem} {out : Mem} (h : f_X10_takesAll M = some out) : Ct w 1 yX10_takesAll cX10_takesAll 2 none [.ref (bw_ad w 93)] M (bw_pv out) := by
  refine Ct.of (own := RX10) rfl (by decide) (by intro v hv; rw [List.mem_singleton.mp hv]; first | rfl | exact bw_cat_rf _) (Nat.le_of_ble_eq_true rfl) ?_
  unfold f_X10_takesAll at h
  show RW w 1 0 0 0 0 cX10_takesAll RX10 2 none (bw_Z w (bw_pv out)) 0 [(0, .ref (bw_ad w 93))] [] M
  refine rw_aload_n dX10_takesAll_0 rfl rfl ?_
  refine rw_iconst (v := 0) dX10_takesAll_1 (by decide) ?_
  refine rw_puti dX10_takesAll_2 fl_RX10_206 fp_10_7 (sh_m w) (bw_kl (by decide)) (by decide) (fun _ => rfl) (fun _ => Nat.le_of_ble_eq_true rfl) ?_
  obtain ⟨M1, hM1, h⟩ := bw_mlE h
  refine rw_m hM1.symm ?_
  refine rw_iconst (v := 0) dX10_takesAll_5 (by decide) ?_
  refine rw_istore_n dX10_takesAll_6 rfl (by decide) ?_
  exact rw_sub (rw_lc rfl (rw_lc rfl rw_lz)) (th_X10_takesAll_L7 bw_fu (0 : Int32) M1 h)
set_option maxRecDepth 20000 in
set_option maxHeartbeats 1000000 in
theorem th_X10_setOf_L13 {w : WE} {M : Mem} {v1 : Int32} {out : Int32} : ∀ (n : Nat) (v2 : Int32) (v3 : Int32), f_X10_setOf_L13 M v1 n v2 v3 = some out → RW w 0 0 0 0 0 cX10_setOf RX10 4 (some .int) (bw_Z w (bw_pi (out) M)) 13 [(0, .ref (bw_ad w 93)), (1, .int v1), (2, .int v2), (3, .int v3)] [] M := by
  intro n
  induction n with
  | zero => intro v2 v3 h; cases h
  | succ n ih =>
    intro v2 v3 h
    rw [f_X10_setOf_L13] at h
    refine rw_iload_n dX10_setOf_13 rfl rfl ?_
    refine rw_aload_n dX10_setOf_14 rfl rfl ?_
    refine rw_get dX10_setOf_15 fl_RX10_194 (sh_m w) (bw_kl (by decide)) rfl ?_
    refine rw_icmp_ge (tgt := 62) dX10_setOf_18 (by decide) (fun c2 => ?_) (fun c2 => ?_)
    · have h := bw_it c2 h
      refine rw_iload_n dX10_setOf_62 rfl rfl ?_
      have h := Option.some.inj h
      subst h
      exact rw_iret dX10_setOf_63 ⟨rfl, rfl⟩
    · have h := bw_if c2 h
      refine rw_aload_n dX10_setOf_21 rfl rfl ?_
      refine rw_get dX10_setOf_22 fl_RX10_29 (sh_m w) (bw_kl (by decide)) rfl ?_
      refine rw_iload_n dX10_setOf_25 rfl rfl ?_
      obtain ⟨g3, h⟩ := bw_gd h
      refine rw_iald dX10_setOf_26 (sh_m_may w) (bw_kl (by decide)) (bw_in g3) ?_
      refine rw_iload_n dX10_setOf_27 rfl rfl ?_
      have key : RW w 0 0 0 0 0 cX10_setOf RX10 4 (some .int) (bw_Z w (bw_pi (out) M)) 55 [(0, .ref (bw_ad w 93)), (1, .int v1), (3, .int v3)] [.int (if (M 100 v3.toNatClampNeg) < v1 then v2 else (if v2 < 0 then M 100 v3.toNatClampNeg else (if v2 ≤ (M 100 v3.toNatClampNeg) then v2 else M 100 v3.toNatClampNeg)))] M := by
        obtain ⟨x7, hx7, h⟩ := bw_mlE h
        refine rw_ti hx7 ?_
        refine rw_istore_n dX10_setOf_55 rfl (by decide) ?_
        refine rw_inc dX10_setOf_56 rfl (by decide) ?_
        refine rw_goto (tgt := 13) dX10_setOf_59 (by decide) ?_
        exact rw_sub (rw_lc rfl (rw_lc rfl (rw_lc rfl (rw_lc rfl rw_lz)))) (ih x7 (v3 + 1) h)
      refine rw_icmp_lt (tgt := 54) dX10_setOf_28 (by decide) (fun c4 => ?_) (fun c4 => ?_)
      · refine rw_iload_n dX10_setOf_54 rfl rfl ?_
        simp only [if_pos c4] at key
        exact rw_sub (rw_lc rfl (rw_lc rfl (rw_lc rfl rw_lz))) key
      · refine rw_iload_n dX10_setOf_31 rfl rfl ?_
        refine rw_if_lt (tgt := 45) dX10_setOf_32 (by decide) (fun c5 => ?_) (fun c5 => ?_)
        · refine rw_aload_n dX10_setOf_45 rfl rfl ?_
          refine rw_get dX10_setOf_46 fl_RX10_29 (sh_m w) (bw_kl (by decide)) rfl ?_
          refine rw_iload_n dX10_setOf_49 rfl rfl ?_
          refine rw_iald dX10_setOf_50 (sh_m_may w) (bw_kl (by decide)) (bw_in g3) ?_
          refine rw_goto (tgt := 55) dX10_setOf_51 (by decide) ?_
          simp only [if_neg c4, if_pos c5] at key
          exact rw_sub (rw_lc rfl (rw_lc rfl (rw_lc rfl rw_lz))) key
        · refine rw_aload_n dX10_setOf_35 rfl rfl ?_
          refine rw_get dX10_setOf_36 fl_RX10_29 (sh_m w) (bw_kl (by decide)) rfl ?_
          refine rw_iload_n dX10_setOf_39 rfl rfl ?_
          refine rw_iald dX10_setOf_40 (sh_m_may w) (bw_kl (by decide)) (bw_in g3) ?_
          refine rw_iload_n dX10_setOf_41 rfl rfl ?_
          refine rw_icmp_ge (tgt := 54) dX10_setOf_42 (by decide) (fun c6 => ?_) (fun c6 => ?_)
          · refine rw_iload_n dX10_setOf_54 rfl rfl ?_
            simp only [if_neg c4, if_neg c5, if_pos c6] at key
            exact rw_sub (rw_lc rfl (rw_lc rfl (rw_lc rfl rw_lz))) key
          · refine rw_aload_n dX10_setOf_45 rfl rfl ?_
            refine rw_get dX10_setOf_46 fl_RX10_29 (sh_m w) (bw_kl (by decide)) rfl ?_
            refine rw_iload_n dX10_setOf_49 rfl rfl ?_
            refine rw_iald dX10_setOf_50 (sh_m_may w) (bw_kl (by decide)) (bw_in g3) ?_
            refine rw_goto (tgt := 55) dX10_setOf_51 (by decide) ?_
            simp only [if_neg c4, if_neg c5, if_neg c6] at key
            exact rw_sub (rw_lc rfl (rw_lc rfl (rw_lc rfl rw_lz))) key
set_option maxRecDepth 20000 in
set_option maxHeartbeats 1000000 in
theorem ct_X10_setOf {w : WE} {M : Mem} {v1 : Int32} {out : Int32} (h : f_X10_setOf M v1 = some out) : Ct w 0 yX10_setOf cX10_setOf 4 (some .int) [.ref (bw_ad w 93), .int v1] M (bw_pi (out) M) := by
  refine Ct.of (own := RX10) rfl (by decide) (by intro v hv; simp only [List.mem_cons, List.not_mem_nil, or_false] at hv; rcases hv with rfl | rfl <;> first | rfl | exact bw_cat_rf _) (Nat.le_of_ble_eq_true rfl) ?_
  unfold f_X10_setOf at h
  show RW w 0 0 0 0 0 cX10_setOf RX10 4 (some .int) (bw_Z w (bw_pi (out) M)) 0 [(0, .ref (bw_ad w 93)), (1, .int v1)] [] M
  refine rw_aload_n dX10_setOf_0 rfl rfl ?_
  refine rw_get dX10_setOf_1 fl_RX10_194 (sh_m w) (bw_kl (by decide)) rfl ?_
  refine rw_if_ne (tgt := 9) dX10_setOf_4 (by decide) (fun c1 => ?_) (fun c1 => ?_)
  · have h := bw_if c1 h
    refine rw_iconst (v := -1) dX10_setOf_9 (by decide) ?_
    refine rw_istore_n dX10_setOf_10 rfl (by decide) ?_
    refine rw_iconst (v := 0) dX10_setOf_11 (by decide) ?_
    refine rw_istore_n dX10_setOf_12 rfl (by decide) ?_
    exact rw_sub (rw_lc rfl (rw_lc rfl (rw_lc rfl (rw_lc rfl rw_lz)))) (th_X10_setOf_L13 bw_fu (-1 : Int32) (0 : Int32) h)
  · have h := bw_it c1 h
    refine rw_iload_n dX10_setOf_7 rfl rfl ?_
    have h := Option.some.inj h
    subst h
    exact rw_iret dX10_setOf_8 ⟨rfl, rfl⟩
set_option maxRecDepth 20000 in
set_option maxHeartbeats 1000000 in
theorem th_X10_counts_L10 {w : WE} {M : Mem} {v1 : Int32} {out : Int32} : ∀ (n : Nat) (v2 : Int32), f_X10_counts_L10 M v1 n v2 = some out → RW w 0 0 0 0 0 cX10_counts RX10 3 (some .int) (bw_Z w (bw_pi (out) M)) 10 [(0, .ref (bw_ad w 93)), (1, .int v1), (2, .int v2)] [] M := by
  intro n
  induction n with
  | zero => intro v2 h; cases h
  | succ n ih =>
    intro v2 h
    rw [f_X10_counts_L10] at h
    refine rw_iload_n dX10_counts_10 rfl rfl ?_
    refine rw_if_lt (tgt := 42) dX10_counts_11 (by decide) (fun c2 => ?_) (fun c2 => ?_)
    · have h := bw_it c2 h
      refine rw_iconst (v := -1) dX10_counts_42 (by decide) ?_
      have h := Option.some.inj h
      subst h
      exact rw_iret dX10_counts_43 ⟨rfl, rfl⟩
    · have h := bw_if c2 h
      refine rw_aload_n dX10_counts_14 rfl rfl ?_
      refine rw_get dX10_counts_15 fl_RX10_9 (sh_m w) (bw_kl (by decide)) rfl ?_
      refine rw_sipush (v := 158) dX10_counts_18 (by decide) ?_
      refine rw_iconst (v := 2) dX10_counts_21 (by decide) ?_
      refine rw_iload_n dX10_counts_22 rfl rfl ?_
      refine rw_imul dX10_counts_23 ?_
      refine rw_iadd dX10_counts_24 ?_
      obtain ⟨g3, h⟩ := bw_gd h
      refine rw_iald dX10_counts_25 (sh_m_now w) (bw_kl (by decide)) (bw_in g3) ?_
      refine rw_sipush (v := 1000) dX10_counts_26 (by decide) ?_
      refine rw_idiv dX10_counts_29 (by decide) ?_
      refine rw_iload_n dX10_counts_30 rfl rfl ?_
      refine rw_icmp_ne (tgt := 36) dX10_counts_31 (by decide) (fun c4 => ?_) (fun c4 => ?_)
      · have h := bw_if c4 h
        refine rw_dec dX10_counts_36 rfl (by decide) ?_
        refine rw_goto (tgt := 10) dX10_counts_39 (by decide) ?_
        exact rw_sub (rw_lc rfl (rw_lc rfl (rw_lc rfl rw_lz))) (ih (v2 - 1) h)
      · have h := bw_it c4 h
        refine rw_iload_n dX10_counts_34 rfl rfl ?_
        have h := Option.some.inj h
        subst h
        exact rw_iret dX10_counts_35 ⟨rfl, rfl⟩
set_option maxRecDepth 20000 in
set_option maxHeartbeats 1000000 in
theorem ct_X10_counts {w : WE} {M : Mem} {v1 : Int32} {out : Int32} (h : f_X10_counts M v1 = some out) : Ct w 0 yX10_counts cX10_counts 3 (some .int) [.ref (bw_ad w 93), .int v1] M (bw_pi (out) M) := by
  refine Ct.of (own := RX10) rfl (by decide) (by intro v hv; simp only [List.mem_cons, List.not_mem_nil, or_false] at hv; rcases hv with rfl | rfl <;> first | rfl | exact bw_cat_rf _) (Nat.le_of_ble_eq_true rfl) ?_
  unfold f_X10_counts at h
  show RW w 0 0 0 0 0 cX10_counts RX10 3 (some .int) (bw_Z w (bw_pi (out) M)) 0 [(0, .ref (bw_ad w 93)), (1, .int v1)] [] M
  refine rw_aload_n dX10_counts_0 rfl rfl ?_
  refine rw_get dX10_counts_1 fl_RX10_9 (sh_m w) (bw_kl (by decide)) rfl ?_
  refine rw_bipush (v := 6) dX10_counts_4 (by decide) ?_
  refine rw_iald dX10_counts_6 (sh_m_now w) (bw_kl (by decide)) (bw_in (show bw_ib (6 : Int32) 1530 = true by decide)) ?_
  refine rw_iconst (v := 1) dX10_counts_7 (by decide) ?_
  refine rw_isub dX10_counts_8 ?_
  obtain ⟨x1, hx1, h⟩ := bw_mlE h
  refine rw_ti hx1 ?_
  refine rw_istore_n dX10_counts_9 rfl (by decide) ?_
  exact rw_sub (rw_lc rfl (rw_lc rfl (rw_lc rfl rw_lz))) (th_X10_counts_L10 bw_fu x1 h)
set_option maxRecDepth 20000 in
set_option maxHeartbeats 1000000 in
theorem ct_X10_two {w : WE} {M : Mem} {v0 : Int32} {v1 : Int32} {v2 : Int32} {out : Int32} (h : f_X10_two v0 v1 v2 = some out) : Ct w 0 yX10_two cX10_two 3 (some .int) [.int v0, .int v1, .int v2] M (bw_pi (out) M) := by
  refine Ct.of (own := RX10) rfl (by decide) (by intro v hv; simp only [List.mem_cons, List.not_mem_nil, or_false] at hv; rcases hv with rfl | rfl | rfl <;> first | rfl | exact bw_cat_rf _) (Nat.le_of_ble_eq_true rfl) ?_
  unfold f_X10_two at h
  show RW w 0 0 0 0 0 cX10_two RX10 3 (some .int) (bw_Z w (bw_pi (out) M)) 0 [(0, .int v0), (1, .int v1), (2, .int v2)] [] M
  refine rw_iload_n dX10_two_0 rfl rfl ?_
  refine rw_case (-8 : Int32) (fun c1 => ?_) (fun c1 => ?_)
  · have h := bw_it c1 h
    refine rw_tabK (tgt := 117) dX10_two_1 c1 (by decide) (by decide) rfl (by decide) ?_
    refine rw_iload_n dX10_two_117 rfl rfl ?_
    refine rw_iload_n dX10_two_118 rfl rfl ?_
    refine rw_imul dX10_two_119 ?_
    have h := Option.some.inj h
    subst h
    exact rw_iret dX10_two_120 ⟨rfl, rfl⟩
  · have h := bw_if c1 h
    refine rw_case (-7 : Int32) (fun c2 => ?_) (fun c2 => ?_)
    · have h := bw_it c2 h
      refine rw_tabK (tgt := 113) dX10_two_1 c2 (by decide) (by decide) rfl (by decide) ?_
      refine rw_iload_n dX10_two_113 rfl rfl ?_
      refine rw_iload_n dX10_two_114 rfl rfl ?_
      refine rw_isub dX10_two_115 ?_
      have h := Option.some.inj h
      subst h
      exact rw_iret dX10_two_116 ⟨rfl, rfl⟩
    · have h := bw_if c2 h
      refine rw_case (-6 : Int32) (fun c3 => ?_) (fun c3 => ?_)
      · have h := bw_it c3 h
        refine rw_tabK (tgt := 109) dX10_two_1 c3 (by decide) (by decide) rfl (by decide) ?_
        refine rw_iload_n dX10_two_109 rfl rfl ?_
        refine rw_iload_n dX10_two_110 rfl rfl ?_
        refine rw_iadd dX10_two_111 ?_
        have h := Option.some.inj h
        subst h
        exact rw_iret dX10_two_112 ⟨rfl, rfl⟩
      · have h := bw_if c3 h
        refine rw_case (-5 : Int32) (fun c4 => ?_) (fun c4 => ?_)
        · have h := bw_it c4 h
          refine rw_tabK (tgt := 98) dX10_two_1 c4 (by decide) (by decide) rfl (by decide) ?_
          refine rw_iload_n dX10_two_98 rfl rfl ?_
          refine rw_iload_n dX10_two_99 rfl rfl ?_
          have key : RW w 0 0 0 0 0 cX10_two RX10 3 (some .int) (bw_Z w (bw_pi (out) M)) 108 [] [.int (if v1 ≤ v2 then (0 : Int32) else (1 : Int32))] M := by
            have h := Option.some.inj h
            subst h
            exact rw_iret dX10_two_108 ⟨rfl, rfl⟩
          refine rw_icmp_le (tgt := 107) dX10_two_100 (by decide) (fun c5 => ?_) (fun c5 => ?_)
          · refine rw_iconst (v := 0) dX10_two_107 (by decide) ?_
            simp only [if_pos c5] at key
            exact rw_sub rw_lz key
          · refine rw_iconst (v := 1) dX10_two_103 (by decide) ?_
            refine rw_goto (tgt := 108) dX10_two_104 (by decide) ?_
            simp only [if_neg c5] at key
            exact rw_sub rw_lz key
        · have h := bw_if c4 h
          refine rw_case (-4 : Int32) (fun c6 => ?_) (fun c6 => ?_)
          · have h := bw_it c6 h
            refine rw_tabK (tgt := 87) dX10_two_1 c6 (by decide) (by decide) rfl (by decide) ?_
            refine rw_iload_n dX10_two_87 rfl rfl ?_
            refine rw_iload_n dX10_two_88 rfl rfl ?_
            have key : RW w 0 0 0 0 0 cX10_two RX10 3 (some .int) (bw_Z w (bw_pi (out) M)) 97 [] [.int (if v1 = v2 then (1 : Int32) else (0 : Int32))] M := by
              have h := Option.some.inj h
              subst h
              exact rw_iret dX10_two_97 ⟨rfl, rfl⟩
            refine rw_icmp_ne (tgt := 96) dX10_two_89 (by decide) (fun c7 => ?_) (fun c7 => ?_)
            · refine rw_iconst (v := 0) dX10_two_96 (by decide) ?_
              simp only [if_neg c7] at key
              exact rw_sub rw_lz key
            · refine rw_iconst (v := 1) dX10_two_92 (by decide) ?_
              refine rw_goto (tgt := 97) dX10_two_93 (by decide) ?_
              simp only [if_pos c7] at key
              exact rw_sub rw_lz key
          · have h := bw_if c6 h
            refine rw_case (-3 : Int32) (fun c8 => ?_) (fun c8 => ?_)
            · have h := bw_it c8 h
              refine rw_tabK (tgt := 76) dX10_two_1 c8 (by decide) (by decide) rfl (by decide) ?_
              refine rw_iload_n dX10_two_76 rfl rfl ?_
              refine rw_iload_n dX10_two_77 rfl rfl ?_
              have key : RW w 0 0 0 0 0 cX10_two RX10 3 (some .int) (bw_Z w (bw_pi (out) M)) 86 [] [.int (if v2 ≤ v1 then (0 : Int32) else (1 : Int32))] M := by
                have h := Option.some.inj h
                subst h
                exact rw_iret dX10_two_86 ⟨rfl, rfl⟩
              refine rw_icmp_ge (tgt := 85) dX10_two_78 (by decide) (fun c9 => ?_) (fun c9 => ?_)
              · refine rw_iconst (v := 0) dX10_two_85 (by decide) ?_
                simp only [if_pos c9] at key
                exact rw_sub rw_lz key
              · refine rw_iconst (v := 1) dX10_two_81 (by decide) ?_
                refine rw_goto (tgt := 86) dX10_two_82 (by decide) ?_
                simp only [if_neg c9] at key
                exact rw_sub rw_lz key
            · have h := bw_if c8 h
              refine rw_case (-2 : Int32) (fun c10 => ?_) (fun c10 => ?_)
              · have h := bw_it c10 h
                refine rw_tabK (tgt := 62) dX10_two_1 c10 (by decide) (by decide) rfl (by decide) ?_
                refine rw_iload_n dX10_two_62 rfl rfl ?_
                have key : RW w 0 0 0 0 0 cX10_two RX10 3 (some .int) (bw_Z w (bw_pi (out) M)) 75 [] [.int (if v1 = 0 then (0 : Int32) else (if v2 = 0 then (0 : Int32) else (1 : Int32)))] M := by
                  have h := Option.some.inj h
                  subst h
                  exact rw_iret dX10_two_75 ⟨rfl, rfl⟩
                refine rw_if_eq (tgt := 74) dX10_two_63 (by decide) (fun c11 => ?_) (fun c11 => ?_)
                · refine rw_iconst (v := 0) dX10_two_74 (by decide) ?_
                  simp only [if_pos c11] at key
                  exact rw_sub rw_lz key
                · refine rw_iload_n dX10_two_66 rfl rfl ?_
                  refine rw_if_eq (tgt := 74) dX10_two_67 (by decide) (fun c12 => ?_) (fun c12 => ?_)
                  · refine rw_iconst (v := 0) dX10_two_74 (by decide) ?_
                    simp only [if_neg c11, if_pos c12] at key
                    exact rw_sub rw_lz key
                  · refine rw_iconst (v := 1) dX10_two_70 (by decide) ?_
                    refine rw_goto (tgt := 75) dX10_two_71 (by decide) ?_
                    simp only [if_neg c11, if_neg c12] at key
                    exact rw_sub rw_lz key
              · have h := bw_if c10 h
                refine rw_case (-1 : Int32) (fun c13 => ?_) (fun c13 => ?_)
                · have h := bw_it c13 h
                  refine rw_tabK (tgt := 48) dX10_two_1 c13 (by decide) (by decide) rfl (by decide) ?_
                  refine rw_iload_n dX10_two_48 rfl rfl ?_
                  have key : RW w 0 0 0 0 0 cX10_two RX10 3 (some .int) (bw_Z w (bw_pi (out) M)) 61 [] [.int (if v1 = 0 then (if v2 = 0 then (0 : Int32) else (1 : Int32)) else (1 : Int32))] M := by
                    have h := Option.some.inj h
                    subst h
                    exact rw_iret dX10_two_61 ⟨rfl, rfl⟩
                  refine rw_if_ne (tgt := 56) dX10_two_49 (by decide) (fun c14 => ?_) (fun c14 => ?_)
                  · refine rw_iconst (v := 1) dX10_two_56 (by decide) ?_
                    refine rw_goto (tgt := 61) dX10_two_57 (by decide) ?_
                    simp only [if_neg c14] at key
                    exact rw_sub rw_lz key
                  · refine rw_iload_n dX10_two_52 rfl rfl ?_
                    refine rw_if_eq (tgt := 60) dX10_two_53 (by decide) (fun c15 => ?_) (fun c15 => ?_)
                    · refine rw_iconst (v := 0) dX10_two_60 (by decide) ?_
                      simp only [if_pos c14, if_pos c15] at key
                      exact rw_sub rw_lz key
                    · refine rw_iconst (v := 1) dX10_two_56 (by decide) ?_
                      refine rw_goto (tgt := 61) dX10_two_57 (by decide) ?_
                      simp only [if_pos c14, if_neg c15] at key
                      exact rw_sub rw_lz key
                · have h := bw_if c13 h
                  refine rw_tabD (tgt := 121) dX10_two_1 (by have := lv_neT (a := -8) c1 (by decide); have := lv_neT (a := -7) c2 (by decide); have := lv_neT (a := -6) c3 (by decide); have := lv_neT (a := -5) c4 (by decide); have := lv_neT (a := -4) c6 (by decide); have := lv_neT (a := -3) c8 (by decide); have := lv_neT (a := -2) c10 (by decide); have := lv_neT (a := -1) c13 (by decide); omega) (by decide) ?_
                  refine rw_iload_n dX10_two_121 rfl rfl ?_
                  refine rw_if_ne (tgt := 129) dX10_two_122 (by decide) (fun c16 => ?_) (fun c16 => ?_)
                  · have h := bw_if c16 h
                    refine rw_iload_n dX10_two_129 rfl rfl ?_
                    refine rw_iload_n dX10_two_130 rfl rfl ?_
                    obtain ⟨g17, h⟩ := bw_gd h
                    refine rw_idiv dX10_two_131 g17 ?_
                    have h := Option.some.inj h
                    subst h
                    exact rw_iret dX10_two_132 ⟨rfl, rfl⟩
                  · have h := bw_it c16 h
                    refine rw_iconst (v := 0) dX10_two_125 (by decide) ?_
                    refine rw_goto (tgt := 132) dX10_two_126 (by decide) ?_
                    have h := Option.some.inj h
                    subst h
                    exact rw_iret dX10_two_132 ⟨rfl, rfl⟩
set_option maxRecDepth 20000 in
set_option maxHeartbeats 1000000 in
theorem th_X10_worksOut_L22 {w : WE} {v1 : Int32} {v3 : Int32} {out : Int32 × Mem} : ∀ (n : Nat) (v2 : Int32) (v4 : Int32) (M : Mem), f_X10_worksOut_L22 v1 v3 n v2 v4 M = some out → RW w 1 0 0 0 0 cX10_worksOut RX10 6 (some .int) (bw_Z w (bw_pi (out.1) out.2)) 22 [(0, .ref (bw_ad w 93)), (1, .int v1), (2, .int v2), (3, .int v3), (4, .int v4)] [] M := by
  intro n
  induction n with
  | zero => intro v2 v4 M h; cases h
  | succ n ih =>
    intro v2 v4 M h
    rw [f_X10_worksOut_L22] at h
    refine rw_iload dX10_worksOut_22 rfl ?_
    refine rw_iload_n dX10_worksOut_24 rfl rfl ?_
    refine rw_icmp_ge (tgt := 157) dX10_worksOut_25 (by decide) (fun c3 => ?_) (fun c3 => ?_)
    · have h := bw_it c3 h
      refine rw_aload_n dX10_worksOut_157 rfl rfl ?_
      refine rw_get dX10_worksOut_158 fl_RX10_78 (sh_m w) (bw_kl (by decide)) rfl ?_
      refine rw_iconst (v := 0) dX10_worksOut_161 (by decide) ?_
      refine rw_iald dX10_worksOut_162 (sh_m_stack w) (bw_kl (by decide)) (bw_in (show bw_ib (0 : Int32) 96 = true by decide)) ?_
      have h := Option.some.inj h
      subst h
      exact rw_iret dX10_worksOut_163 ⟨rfl, rfl⟩
    · have h := bw_if c3 h
      refine rw_aload_n dX10_worksOut_28 rfl rfl ?_
      refine rw_get dX10_worksOut_29 fl_RX10_9 (sh_m w) (bw_kl (by decide)) rfl ?_
      refine rw_sipush (v := 186) dX10_worksOut_32 (by decide) ?_
      refine rw_bipush (v := 96) dX10_worksOut_35 (by decide) ?_
      refine rw_iload_n dX10_worksOut_37 rfl rfl ?_
      refine rw_imul dX10_worksOut_38 ?_
      refine rw_iadd dX10_worksOut_39 ?_
      refine rw_iload dX10_worksOut_40 rfl ?_
      refine rw_iadd dX10_worksOut_42 ?_
      obtain ⟨g4, h⟩ := bw_gd h
      refine rw_iald dX10_worksOut_43 (sh_m_now w) (bw_kl (by decide)) (bw_in g4) ?_
      obtain ⟨x5, hx5, h⟩ := bw_mlE h
      refine rw_ti hx5 ?_
      refine rw_istore dX10_worksOut_44 (by decide) ?_
      refine rw_iload dX10_worksOut_46 rfl ?_
      refine rw_if_lt (tgt := 87) dX10_worksOut_48 (by decide) (fun c6 => ?_) (fun c6 => ?_)
      · have h := bw_it c6 h
        refine rw_iload dX10_worksOut_87 rfl ?_
        refine rw_bipush (v := -10) dX10_worksOut_89 (by decide) ?_
        refine rw_icmp_ne (tgt := 121) dX10_worksOut_91 (by decide) (fun c7 => ?_) (fun c7 => ?_)
        · have h := bw_if c7 h
          refine rw_dec dX10_worksOut_121 rfl (by decide) ?_
          refine rw_aload_n dX10_worksOut_124 rfl rfl ?_
          refine rw_get dX10_worksOut_125 fl_RX10_78 (sh_m w) (bw_kl (by decide)) rfl ?_
          refine rw_iload_n dX10_worksOut_128 rfl rfl ?_
          refine rw_iconst (v := 1) dX10_worksOut_129 (by decide) ?_
          refine rw_isub dX10_worksOut_130 ?_
          refine rw_iload dX10_worksOut_131 rfl ?_
          refine rw_aload_n dX10_worksOut_133 rfl rfl ?_
          refine rw_get dX10_worksOut_134 fl_RX10_78 (sh_m w) (bw_kl (by decide)) rfl ?_
          refine rw_iload_n dX10_worksOut_137 rfl rfl ?_
          refine rw_iconst (v := 1) dX10_worksOut_138 (by decide) ?_
          refine rw_isub dX10_worksOut_139 ?_
          obtain ⟨g8, h⟩ := bw_gd h
          refine rw_iald dX10_worksOut_140 (sh_m_stack w) (bw_kl (by decide)) (bw_in g8) ?_
          refine rw_aload_n dX10_worksOut_141 rfl rfl ?_
          refine rw_get dX10_worksOut_142 fl_RX10_78 (sh_m w) (bw_kl (by decide)) rfl ?_
          refine rw_iload_n dX10_worksOut_145 rfl rfl ?_
          obtain ⟨g9, h⟩ := bw_gd h
          refine rw_iald dX10_worksOut_146 (sh_m_stack w) (bw_kl (by decide)) (bw_in g9) ?_
          obtain ⟨q10, hq10, h⟩ := bw_bd h
          refine rw_callS3 dX10_worksOut_147 ln_RX10_331 ms_X10_two (ct_X10_two hq10) (Nat.le_of_ble_eq_true rfl) (Nat.le_of_ble_eq_true rfl) (bw_kki ?_)
          refine rw_iast dX10_worksOut_150 (sh_m_stack w) (bw_kl (by decide)) (bw_in g8) ?_
          obtain ⟨M11, hM11, h⟩ := bw_mlE h
          refine rw_m hM11.symm ?_
          refine rw_inc dX10_worksOut_151 rfl (by decide) ?_
          refine rw_goto (tgt := 22) dX10_worksOut_154 (by decide) ?_
          exact rw_sub (rw_lc rfl (rw_lc rfl (rw_lc rfl (rw_lc rfl (rw_lc rfl rw_lz))))) (ih (v2 - 1) (v4 + 1) M11 h)
        · have h := bw_it c7 h
          refine rw_aload_n dX10_worksOut_94 rfl rfl ?_
          refine rw_get dX10_worksOut_95 fl_RX10_78 (sh_m w) (bw_kl (by decide)) rfl ?_
          refine rw_iload_n dX10_worksOut_98 rfl rfl ?_
          refine rw_iconst (v := 1) dX10_worksOut_99 (by decide) ?_
          refine rw_isub dX10_worksOut_100 ?_
          refine rw_aload_n dX10_worksOut_101 rfl rfl ?_
          refine rw_get dX10_worksOut_102 fl_RX10_78 (sh_m w) (bw_kl (by decide)) rfl ?_
          refine rw_iload_n dX10_worksOut_105 rfl rfl ?_
          refine rw_iconst (v := 1) dX10_worksOut_106 (by decide) ?_
          refine rw_isub dX10_worksOut_107 ?_
          obtain ⟨g12, h⟩ := bw_gd h
          refine rw_iald dX10_worksOut_108 (sh_m_stack w) (bw_kl (by decide)) (bw_in g12) ?_
          have key : RW w 1 0 0 0 0 cX10_worksOut RX10 6 (some .int) (bw_Z w (bw_pi (out.1) out.2)) 117 [(0, .ref (bw_ad w 93)), (1, .int v1), (2, .int v2), (3, .int v3), (4, .int v4)] [.int (if (M 116 (v2 - (1 : Int32)).toNatClampNeg) = 0 then (1 : Int32) else (0 : Int32)), .int (v2 - (1 : Int32)), .ref (bw_ad w 116)] M := by
            refine rw_iast dX10_worksOut_117 (sh_m_stack w) (bw_kl (by decide)) (bw_in g12) ?_
            obtain ⟨M14, hM14, h⟩ := bw_mlE h
            refine rw_m hM14.symm ?_
            refine rw_goto (tgt := 151) dX10_worksOut_118 (by decide) ?_
            refine rw_inc dX10_worksOut_151 rfl (by decide) ?_
            refine rw_goto (tgt := 22) dX10_worksOut_154 (by decide) ?_
            exact rw_sub (rw_lc rfl (rw_lc rfl (rw_lc rfl (rw_lc rfl (rw_lc rfl rw_lz))))) (ih v2 (v4 + 1) M14 h)
          refine rw_if_ne (tgt := 116) dX10_worksOut_109 (by decide) (fun c13 => ?_) (fun c13 => ?_)
          · refine rw_iconst (v := 0) dX10_worksOut_116 (by decide) ?_
            simp only [if_neg c13] at key
            exact rw_sub (rw_lc rfl (rw_lc rfl (rw_lc rfl (rw_lc rfl (rw_lc rfl rw_lz))))) key
          · refine rw_iconst (v := 1) dX10_worksOut_112 (by decide) ?_
            refine rw_goto (tgt := 117) dX10_worksOut_113 (by decide) ?_
            simp only [if_pos c13] at key
            exact rw_sub (rw_lc rfl (rw_lc rfl (rw_lc rfl (rw_lc rfl (rw_lc rfl rw_lz))))) key
      · have h := bw_if c6 h
        refine rw_aload_n dX10_worksOut_51 rfl rfl ?_
        refine rw_get dX10_worksOut_52 fl_RX10_78 (sh_m w) (bw_kl (by decide)) rfl ?_
        refine rw_iload_n dX10_worksOut_55 rfl rfl ?_
        refine rw_iload dX10_worksOut_56 rfl ?_
        refine rw_sipush (v := 10000) dX10_worksOut_58 (by decide) ?_
        refine rw_icmp_ge (tgt := 69) dX10_worksOut_61 (by decide) (fun c15 => ?_) (fun c15 => ?_)
        · have h := bw_it c15 h
          refine rw_aload_n dX10_worksOut_69 rfl rfl ?_
          refine rw_get dX10_worksOut_70 fl_RX10_81 (sh_m w) (bw_kl (by decide)) rfl ?_
          refine rw_iload dX10_worksOut_73 rfl ?_
          refine rw_sipush (v := 10000) dX10_worksOut_75 (by decide) ?_
          refine rw_isub dX10_worksOut_78 ?_
          obtain ⟨g16, h⟩ := bw_gd h
          refine rw_iald dX10_worksOut_79 (sh_m_facts w) (bw_kl (by decide)) (bw_in g16) ?_
          obtain ⟨g17, h⟩ := bw_gd h
          refine rw_iast dX10_worksOut_80 (sh_m_stack w) (bw_kl (by decide)) (bw_in g17) ?_
          obtain ⟨M18, hM18, h⟩ := bw_mlE h
          refine rw_m hM18.symm ?_
          refine rw_inc dX10_worksOut_81 rfl (by decide) ?_
          refine rw_goto (tgt := 151) dX10_worksOut_84 (by decide) ?_
          refine rw_inc dX10_worksOut_151 rfl (by decide) ?_
          refine rw_goto (tgt := 22) dX10_worksOut_154 (by decide) ?_
          exact rw_sub (rw_lc rfl (rw_lc rfl (rw_lc rfl (rw_lc rfl (rw_lc rfl rw_lz))))) (ih (v2 + 1) (v4 + 1) M18 h)
        · have h := bw_if c15 h
          refine rw_iload dX10_worksOut_64 rfl ?_
          refine rw_goto (tgt := 80) dX10_worksOut_66 (by decide) ?_
          obtain ⟨g19, h⟩ := bw_gd h
          refine rw_iast dX10_worksOut_80 (sh_m_stack w) (bw_kl (by decide)) (bw_in g19) ?_
          obtain ⟨M20, hM20, h⟩ := bw_mlE h
          refine rw_m hM20.symm ?_
          refine rw_inc dX10_worksOut_81 rfl (by decide) ?_
          refine rw_goto (tgt := 151) dX10_worksOut_84 (by decide) ?_
          refine rw_inc dX10_worksOut_151 rfl (by decide) ?_
          refine rw_goto (tgt := 22) dX10_worksOut_154 (by decide) ?_
          exact rw_sub (rw_lc rfl (rw_lc rfl (rw_lc rfl (rw_lc rfl (rw_lc rfl rw_lz))))) (ih (v2 + 1) (v4 + 1) M20 h)
set_option maxRecDepth 20000 in
set_option maxHeartbeats 1000000 in
theorem ct_X10_worksOut {w : WE} {M : Mem} {v1 : Int32} {out : Int32 × Mem} (h : f_X10_worksOut M v1 = some out) : Ct w 1 yX10_worksOut cX10_worksOut 6 (some .int) [.ref (bw_ad w 93), .int v1] M (bw_pi (out.1) out.2) := by
  refine Ct.of (own := RX10) rfl (by decide) (by intro v hv; simp only [List.mem_cons, List.not_mem_nil, or_false] at hv; rcases hv with rfl | rfl <;> first | rfl | exact bw_cat_rf _) (Nat.le_of_ble_eq_true rfl) ?_
  unfold f_X10_worksOut at h
  show RW w 1 0 0 0 0 cX10_worksOut RX10 6 (some .int) (bw_Z w (bw_pi (out.1) out.2)) 0 [(0, .ref (bw_ad w 93)), (1, .int v1)] [] M
  refine rw_iconst (v := 0) dX10_worksOut_0 (by decide) ?_
  refine rw_istore_n dX10_worksOut_1 rfl (by decide) ?_
  refine rw_aload_n dX10_worksOut_2 rfl rfl ?_
  refine rw_get dX10_worksOut_3 fl_RX10_9 (sh_m w) (bw_kl (by decide)) rfl ?_
  refine rw_sipush (v := 158) dX10_worksOut_6 (by decide) ?_
  refine rw_iconst (v := 2) dX10_worksOut_9 (by decide) ?_
  refine rw_iload_n dX10_worksOut_10 rfl rfl ?_
  refine rw_imul dX10_worksOut_11 ?_
  refine rw_iadd dX10_worksOut_12 ?_
  obtain ⟨g1, h⟩ := bw_gd h
  refine rw_iald dX10_worksOut_13 (sh_m_now w) (bw_kl (by decide)) (bw_in g1) ?_
  refine rw_sipush (v := 1000) dX10_worksOut_14 (by decide) ?_
  refine rw_irem dX10_worksOut_17 (by decide) ?_
  obtain ⟨x2, hx2, h⟩ := bw_mlE h
  refine rw_ti hx2 ?_
  refine rw_istore_n dX10_worksOut_18 rfl (by decide) ?_
  refine rw_iconst (v := 0) dX10_worksOut_19 (by decide) ?_
  refine rw_istore dX10_worksOut_20 (by decide) ?_
  exact rw_sub (rw_lc rfl (rw_lc rfl (rw_lc rfl (rw_lc rfl (rw_lc rfl rw_lz))))) (th_X10_worksOut_L22 bw_fu (0 : Int32) (0 : Int32) M h)
set_option maxRecDepth 20000 in
set_option maxHeartbeats 1000000 in
theorem ct_X10_priceOf {w : WE} {M : Mem} {v1 : Int32} {v2 : Int32} {out : Int32 × Mem} (h : f_X10_priceOf M v1 v2 = some out) : Ct w 2 yX10_priceOf cX10_priceOf 5 (some .int) [.ref (bw_ad w 93), .int v1, .int v2] M (bw_pi (out.1) out.2) := by
  refine Ct.of (own := RX10) rfl (by decide) (by intro v hv; simp only [List.mem_cons, List.not_mem_nil, or_false] at hv; rcases hv with rfl | rfl | rfl <;> first | rfl | exact bw_cat_rf _) (Nat.le_of_ble_eq_true rfl) ?_
  unfold f_X10_priceOf at h
  show RW w 2 0 0 0 0 cX10_priceOf RX10 5 (some .int) (bw_Z w (bw_pi (out.1) out.2)) 0 [(0, .ref (bw_ad w 93)), (1, .int v1), (2, .int v2)] [] M
  refine rw_aload_n dX10_priceOf_0 rfl rfl ?_
  refine rw_iconst (v := 0) dX10_priceOf_1 (by decide) ?_
  obtain ⟨q1, hq1, h⟩ := bw_bd h
  refine rw_callV1 dX10_priceOf_2 ln_RX10_197 mv_X10_counts (sh_m w) (bw_kl (by decide)) (ct_X10_counts hq1) (Nat.le_of_ble_eq_true rfl) (Nat.le_of_ble_eq_true rfl) (bw_kki ?_)
  refine rw_istore_n dX10_priceOf_5 rfl (by decide) ?_
  refine rw_iload_n dX10_priceOf_6 rfl rfl ?_
  refine rw_if_ge (tgt := 19) dX10_priceOf_7 (by decide) (fun c2 => ?_) (fun c2 => ?_)
  · have h := bw_it c2 h
    refine rw_bipush (v := 25) dX10_priceOf_19 (by decide) ?_
    refine rw_iload_n dX10_priceOf_21 rfl rfl ?_
    refine rw_imul dX10_priceOf_22 ?_
    refine rw_iload_n dX10_priceOf_23 rfl rfl ?_
    refine rw_iadd dX10_priceOf_24 ?_
    refine rw_istore dX10_priceOf_25 (by decide) ?_
    refine rw_aload_n dX10_priceOf_27 rfl rfl ?_
    refine rw_get dX10_priceOf_28 fl_RX10_35 (sh_m w) (bw_kl (by decide)) rfl ?_
    refine rw_iload dX10_priceOf_31 rfl ?_
    obtain ⟨g3, h⟩ := bw_gd h
    refine rw_iald dX10_priceOf_33 (sh_m_priced w) (bw_kl (by decide)) (bw_in g3) ?_
    refine rw_aload_n dX10_priceOf_34 rfl rfl ?_
    refine rw_get dX10_priceOf_35 fl_RX10_188 (sh_m w) (bw_kl (by decide)) rfl ?_
    refine rw_icmp_eq (tgt := 97) dX10_priceOf_38 (by decide) (fun c4 => ?_) (fun c4 => ?_)
    · have h := bw_it c4 h
      refine rw_aload_n dX10_priceOf_97 rfl rfl ?_
      refine rw_get dX10_priceOf_98 fl_RX10_32 (sh_m w) (bw_kl (by decide)) rfl ?_
      refine rw_iload dX10_priceOf_101 rfl ?_
      refine rw_iald dX10_priceOf_103 (sh_m_prices w) (bw_kl (by decide)) (bw_in g3) ?_
      have h := Option.some.inj h
      subst h
      exact rw_iret dX10_priceOf_104 ⟨rfl, rfl⟩
    · have h := bw_if c4 h
      refine rw_aload_n dX10_priceOf_41 rfl rfl ?_
      refine rw_get dX10_priceOf_42 fl_RX10_35 (sh_m w) (bw_kl (by decide)) rfl ?_
      refine rw_iload dX10_priceOf_45 rfl ?_
      refine rw_aload_n dX10_priceOf_47 rfl rfl ?_
      refine rw_get dX10_priceOf_48 fl_RX10_188 (sh_m w) (bw_kl (by decide)) rfl ?_
      refine rw_iast dX10_priceOf_51 (sh_m_priced w) (bw_kl (by decide)) (bw_in g3) ?_
      obtain ⟨M5, hM5, h⟩ := bw_mlE h
      refine rw_m hM5.symm ?_
      refine rw_aload_n dX10_priceOf_52 rfl rfl ?_
      refine rw_get dX10_priceOf_53 fl_RX10_81 (sh_m w) (bw_kl (by decide)) rfl ?_
      refine rw_iconst (v := 0) dX10_priceOf_56 (by decide) ?_
      refine rw_iload_n dX10_priceOf_57 rfl rfl ?_
      refine rw_iast dX10_priceOf_58 (sh_m_facts w) (bw_kl (by decide)) (bw_in (show bw_ib (0 : Int32) 4 = true by decide)) ?_
      obtain ⟨M6, hM6, h⟩ := bw_mlE h
      refine rw_m hM6.symm ?_
      refine rw_aload_n dX10_priceOf_59 rfl rfl ?_
      refine rw_get dX10_priceOf_60 fl_RX10_81 (sh_m w) (bw_kl (by decide)) rfl ?_
      refine rw_iconst (v := 1) dX10_priceOf_63 (by decide) ?_
      refine rw_iload_n dX10_priceOf_64 rfl rfl ?_
      refine rw_iast dX10_priceOf_65 (sh_m_facts w) (bw_kl (by decide)) (bw_in (show bw_ib (1 : Int32) 4 = true by decide)) ?_
      obtain ⟨M7, hM7, h⟩ := bw_mlE h
      refine rw_m hM7.symm ?_
      refine rw_aload_n dX10_priceOf_66 rfl rfl ?_
      refine rw_get dX10_priceOf_67 fl_RX10_81 (sh_m w) (bw_kl (by decide)) rfl ?_
      refine rw_iconst (v := 2) dX10_priceOf_70 (by decide) ?_
      refine rw_aload_n dX10_priceOf_71 rfl rfl ?_
      refine rw_get dX10_priceOf_72 fl_RX10_9 (sh_m w) (bw_kl (by decide)) rfl ?_
      refine rw_iconst (v := 2) dX10_priceOf_75 (by decide) ?_
      refine rw_iald dX10_priceOf_76 (sh_m_now w) (bw_kl (by decide)) (bw_in (show bw_ib (2 : Int32) 1530 = true by decide)) ?_
      refine rw_iast dX10_priceOf_77 (sh_m_facts w) (bw_kl (by decide)) (bw_in (show bw_ib (2 : Int32) 4 = true by decide)) ?_
      obtain ⟨M8, hM8, h⟩ := bw_mlE h
      refine rw_m hM8.symm ?_
      refine rw_aload_n dX10_priceOf_78 rfl rfl ?_
      refine rw_get dX10_priceOf_79 fl_RX10_32 (sh_m w) (bw_kl (by decide)) rfl ?_
      refine rw_iload dX10_priceOf_82 rfl ?_
      refine rw_aload_n dX10_priceOf_84 rfl rfl ?_
      refine rw_iload_n dX10_priceOf_85 rfl rfl ?_
      obtain ⟨q9, hq9, h⟩ := bw_bd h
      refine rw_callV1 dX10_priceOf_86 ln_RX10_200 mv_X10_worksOut (sh_m w) (bw_kl (by decide)) (ct_X10_worksOut hq9) (Nat.le_of_ble_eq_true rfl) (Nat.le_of_ble_eq_true rfl) (bw_kki ?_)
      refine rw_iconst (v := 0) dX10_priceOf_89 (by decide) ?_
      refine rw_sipush (v := 9999) dX10_priceOf_90 (by decide) ?_
      refine rw_callS3 dX10_priceOf_93 ln_RX10_203 ms_X10_within (ct_X10_within rfl) (Nat.le_of_ble_eq_true rfl) (Nat.le_of_ble_eq_true rfl) (bw_kki ?_)
      refine rw_iast dX10_priceOf_96 (sh_m_prices w) (bw_kl (by decide)) (bw_in g3) ?_
      obtain ⟨M10, hM10, h⟩ := bw_mlE h
      refine rw_m hM10.symm ?_
      refine rw_aload_n dX10_priceOf_97 rfl rfl ?_
      refine rw_get dX10_priceOf_98 fl_RX10_32 (sh_m w) (bw_kl (by decide)) rfl ?_
      refine rw_iload dX10_priceOf_101 rfl ?_
      refine rw_iald dX10_priceOf_103 (sh_m_prices w) (bw_kl (by decide)) (bw_in g3) ?_
      have h := Option.some.inj h
      subst h
      exact rw_iret dX10_priceOf_104 ⟨rfl, rfl⟩
  · have h := bw_if c2 h
    refine rw_iload_n dX10_priceOf_10 rfl rfl ?_
    refine rw_aload_n dX10_priceOf_11 rfl rfl ?_
    refine rw_get dX10_priceOf_12 fl_RX10_9 (sh_m w) (bw_kl (by decide)) rfl ?_
    refine rw_iconst (v := 2) dX10_priceOf_15 (by decide) ?_
    refine rw_iald dX10_priceOf_16 (sh_m_now w) (bw_kl (by decide)) (bw_in (show bw_ib (2 : Int32) 1530 = true by decide)) ?_
    refine rw_iadd dX10_priceOf_17 ?_
    have h := Option.some.inj h
    subst h
    exact rw_iret dX10_priceOf_18 ⟨rfl, rfl⟩
set_option maxRecDepth 20000 in
set_option maxHeartbeats 1000000 in
theorem th_X10_parts_L35 {w : WE} {v1 : Int32} {Z : Option Value → Heap → Prop} {out : Mem} : ∀ (n : Nat) (v2 : Int32) (v3 : Int32) (v4 : Int32) (M : Mem), f_X10_parts_L35 v1 n v2 v3 v4 M = some out → RW w 3 0 0 0 0 cX10_parts RX10 7 (some .int) Z 206 [(0, .ref (bw_ad w 93)), (1, .int v1)] [] out → RW w 3 0 0 0 0 cX10_parts RX10 7 (some .int) Z 35 [(0, .ref (bw_ad w 93)), (1, .int v1), (2, .int v2), (3, .int v3), (4, .int v4)] [] M := by
  intro n
  induction n with
  | zero => intro v2 v3 v4 M h hk; cases h
  | succ n ih =>
    intro v2 v3 v4 M h hk
    rw [f_X10_parts_L35] at h
    refine rw_iload dX10_parts_35 rfl ?_
    refine rw_aload_n dX10_parts_37 rfl rfl ?_
    refine rw_get dX10_parts_38 fl_RX10_206 (sh_m w) (bw_kl (by decide)) rfl ?_
    refine rw_icmp_ge (tgt := 206) dX10_parts_41 (by decide) (fun c6 => ?_) (fun c6 => ?_)
    · have h := bw_it c6 h
      have h := Option.some.inj h
      subst h
      exact rw_sub (rw_lc rfl (rw_lc rfl rw_lz)) hk
    · have h := bw_if c6 h
      refine rw_iload_n dX10_parts_44 rfl rfl ?_
      refine rw_aload_n dX10_parts_45 rfl rfl ?_
      refine rw_get dX10_parts_46 fl_RX10_22 (sh_m w) (bw_kl (by decide)) rfl ?_
      refine rw_iload dX10_parts_49 rfl ?_
      obtain ⟨g7, h⟩ := bw_gd h
      refine rw_iald dX10_parts_51 (sh_m_thicks w) (bw_kl (by decide)) (bw_in g7) ?_
      refine rw_iadd dX10_parts_52 ?_
      refine rw_istore_n dX10_parts_53 rfl (by decide) ?_
      refine rw_aload_n dX10_parts_54 rfl rfl ?_
      refine rw_get dX10_parts_55 fl_RX10_19 (sh_m w) (bw_kl (by decide)) rfl ?_
      refine rw_iload dX10_parts_58 rfl ?_
      refine rw_iald dX10_parts_60 (sh_m_heights w) (bw_kl (by decide)) (bw_in g7) ?_
      refine rw_iload_n dX10_parts_61 rfl rfl ?_
      have key : RW w 3 0 0 0 0 cX10_parts RX10 7 (some .int) Z 76 [(0, .ref (bw_ad w 93)), (1, .int v1), (2, .int (v2 + (M 98 v4.toNatClampNeg))), (4, .int v4)] [.int (if (M 97 v4.toNatClampNeg) ≤ v3 then v3 else M 97 v4.toNatClampNeg)] M := by
        obtain ⟨x9, hx9, h⟩ := bw_mlE h
        refine rw_ti hx9 ?_
        refine rw_istore_n dX10_parts_76 rfl (by decide) ?_
        refine rw_iload_n dX10_parts_77 rfl rfl ?_
        refine rw_aload_n dX10_parts_78 rfl rfl ?_
        refine rw_get dX10_parts_79 fl_RX10_191 (sh_m w) (bw_kl (by decide)) rfl ?_
        refine rw_icmp_le (tgt := 88) dX10_parts_82 (by decide) (fun c10 => ?_) (fun c10 => ?_)
        · have h := bw_it c10 h
          refine rw_aload_n dX10_parts_88 rfl rfl ?_
          refine rw_iload_n dX10_parts_89 rfl rfl ?_
          obtain ⟨q11, hq11, h⟩ := bw_bd h
          refine rw_callV1 dX10_parts_90 ln_RX10_213 mv_X10_setOf (sh_m w) (bw_kl (by decide)) (ct_X10_setOf hq11) (Nat.le_of_ble_eq_true rfl) (Nat.le_of_ble_eq_true rfl) (bw_kki ?_)
          refine rw_istore dX10_parts_93 (by decide) ?_
          refine rw_iload dX10_parts_95 rfl ?_
          refine rw_if_lt (tgt := 200) dX10_parts_97 (by decide) (fun c12 => ?_) (fun c12 => ?_)
          · have h := bw_it c12 h
            refine rw_inc dX10_parts_200 rfl (by decide) ?_
            refine rw_goto (tgt := 35) dX10_parts_203 (by decide) ?_
            exact rw_sub (rw_lc rfl (rw_lc rfl (rw_lc rfl (rw_lc rfl (rw_lc rfl rw_lz))))) (ih (v2 + (M 98 v4.toNatClampNeg)) x9 (v4 + 1) M h hk)
          · have h := bw_if c12 h
            refine rw_aload_n dX10_parts_100 rfl rfl ?_
            refine rw_get dX10_parts_101 fl_RX10_38 (sh_m w) (bw_kl (by decide)) rfl ?_
            refine rw_iload dX10_parts_104 rfl ?_
            refine rw_iconst (v := 1) dX10_parts_106 (by decide) ?_
            refine rw_iadd dX10_parts_107 ?_
            obtain ⟨g13, h⟩ := bw_gd h
            refine rw_iald dX10_parts_108 (sh_m_least w) (bw_kl (by decide)) (bw_in g13) ?_
            refine rw_if_lt (tgt := 200) dX10_parts_109 (by decide) (fun c14 => ?_) (fun c14 => ?_)
            · have h := bw_it c14 h
              refine rw_inc dX10_parts_200 rfl (by decide) ?_
              refine rw_goto (tgt := 35) dX10_parts_203 (by decide) ?_
              exact rw_sub (rw_lc rfl (rw_lc rfl (rw_lc rfl (rw_lc rfl (rw_lc rfl rw_lz))))) (ih (v2 + (M 98 v4.toNatClampNeg)) x9 (v4 + 1) M h hk)
            · have h := bw_if c14 h
              refine rw_aload_n dX10_parts_112 rfl rfl ?_
              refine rw_get dX10_parts_113 fl_RX10_25 (sh_m w) (bw_kl (by decide)) rfl ?_
              refine rw_iload dX10_parts_116 rfl ?_
              refine rw_zald dX10_parts_118 (sh_m_tied w) (bw_kl (by decide)) (bw_in g7) ?_
              refine rw_if_eq (tgt := 136) dX10_parts_119 (by decide) (fun c15 => ?_) (fun c15 => ?_)
              · have h := bw_it c15 h
                refine rw_aload_n dX10_parts_136 rfl rfl ?_
                refine rw_iload dX10_parts_137 rfl ?_
                refine rw_iload dX10_parts_139 rfl ?_
                refine rw_iload_n dX10_parts_141 rfl rfl ?_
                refine rw_isub dX10_parts_142 ?_
                refine rw_iconst (v := 1) dX10_parts_143 (by decide) ?_
                refine rw_iadd dX10_parts_144 ?_
                obtain ⟨q16, hq16, h⟩ := bw_bd h
                refine rw_callV2 dX10_parts_145 ln_RX10_216 mv_X10_priceOf (sh_m w) (bw_kl (by decide)) (ct_X10_priceOf hq16) (Nat.le_of_ble_eq_true rfl) (Nat.le_of_ble_eq_true rfl) (bw_kki ?_)
                refine rw_aload_n dX10_parts_148 rfl rfl ?_
                refine rw_get dX10_parts_149 fl_RX10_38 (sh_m w) (bw_kl (by decide)) rfl ?_
                refine rw_iload dX10_parts_152 rfl ?_
                refine rw_iconst (v := 1) dX10_parts_154 (by decide) ?_
                refine rw_iadd dX10_parts_155 ?_
                refine rw_iald dX10_parts_156 (sh_m_least w) (bw_kl (by decide)) (bw_in g13) ?_
                refine rw_iadd dX10_parts_157 ?_
                obtain ⟨x17, hx17, h⟩ := bw_mlE h
                refine rw_ti hx17 ?_
                refine rw_istore dX10_parts_158 (by decide) ?_
                refine rw_aload_n dX10_parts_160 rfl rfl ?_
                refine rw_get dX10_parts_161 fl_RX10_38 (sh_m w) (bw_kl (by decide)) rfl ?_
                refine rw_iload_n dX10_parts_164 rfl rfl ?_
                obtain ⟨g18, h⟩ := bw_gd h
                refine rw_iald dX10_parts_165 (sh_m_least w) (bw_kl (by decide)) (bw_in g18) ?_
                refine rw_if_lt (tgt := 180) dX10_parts_166 (by decide) (fun c19 => ?_) (fun c19 => ?_)
                · have h := bw_it c19 h
                  refine rw_aload_n dX10_parts_180 rfl rfl ?_
                  refine rw_get dX10_parts_181 fl_RX10_38 (sh_m w) (bw_kl (by decide)) rfl ?_
                  refine rw_iload_n dX10_parts_184 rfl rfl ?_
                  refine rw_iload dX10_parts_185 rfl ?_
                  refine rw_iast dX10_parts_187 (sh_m_least w) (bw_kl (by decide)) (bw_in g18) ?_
                  obtain ⟨M20, hM20, h⟩ := bw_mlE h
                  refine rw_m hM20.symm ?_
                  refine rw_aload_n dX10_parts_188 rfl rfl ?_
                  refine rw_get dX10_parts_189 fl_RX10_41 (sh_m w) (bw_kl (by decide)) rfl ?_
                  refine rw_iload_n dX10_parts_192 rfl rfl ?_
                  refine rw_iload dX10_parts_193 rfl ?_
                  refine rw_iload_n dX10_parts_195 rfl rfl ?_
                  refine rw_isub dX10_parts_196 ?_
                  refine rw_iconst (v := 1) dX10_parts_197 (by decide) ?_
                  refine rw_iadd dX10_parts_198 ?_
                  refine rw_iast dX10_parts_199 (sh_m_firstLine w) (bw_kl (by decide)) (bw_in g18) ?_
                  obtain ⟨M21, hM21, h⟩ := bw_mlE h
                  refine rw_m hM21.symm ?_
                  refine rw_inc dX10_parts_200 rfl (by decide) ?_
                  refine rw_goto (tgt := 35) dX10_parts_203 (by decide) ?_
                  exact rw_sub (rw_lc rfl (rw_lc rfl (rw_lc rfl (rw_lc rfl (rw_lc rfl rw_lz))))) (ih (v2 + (M 98 v4.toNatClampNeg)) x9 (v4 + 1) M21 h hk)
                · have h := bw_if c19 h
                  refine rw_iload dX10_parts_169 rfl ?_
                  refine rw_aload_n dX10_parts_171 rfl rfl ?_
                  refine rw_get dX10_parts_172 fl_RX10_38 (sh_m w) (bw_kl (by decide)) rfl ?_
                  refine rw_iload_n dX10_parts_175 rfl rfl ?_
                  refine rw_iald dX10_parts_176 (sh_m_least w) (bw_kl (by decide)) (bw_in g18) ?_
                  refine rw_icmp_gt (tgt := 200) dX10_parts_177 (by decide) (fun c22 => ?_) (fun c22 => ?_)
                  · have h := bw_it c22 h
                    refine rw_inc dX10_parts_200 rfl (by decide) ?_
                    refine rw_goto (tgt := 35) dX10_parts_203 (by decide) ?_
                    exact rw_sub (rw_lc rfl (rw_lc rfl (rw_lc rfl (rw_lc rfl (rw_lc rfl rw_lz))))) (ih (v2 + (M 98 v4.toNatClampNeg)) x9 (v4 + 1) q16.2 h hk)
                  · have h := bw_if c22 h
                    refine rw_aload_n dX10_parts_180 rfl rfl ?_
                    refine rw_get dX10_parts_181 fl_RX10_38 (sh_m w) (bw_kl (by decide)) rfl ?_
                    refine rw_iload_n dX10_parts_184 rfl rfl ?_
                    refine rw_iload dX10_parts_185 rfl ?_
                    refine rw_iast dX10_parts_187 (sh_m_least w) (bw_kl (by decide)) (bw_in g18) ?_
                    obtain ⟨M23, hM23, h⟩ := bw_mlE h
                    refine rw_m hM23.symm ?_
                    refine rw_aload_n dX10_parts_188 rfl rfl ?_
                    refine rw_get dX10_parts_189 fl_RX10_41 (sh_m w) (bw_kl (by decide)) rfl ?_
                    refine rw_iload_n dX10_parts_192 rfl rfl ?_
                    refine rw_iload dX10_parts_193 rfl ?_
                    refine rw_iload_n dX10_parts_195 rfl rfl ?_
                    refine rw_isub dX10_parts_196 ?_
                    refine rw_iconst (v := 1) dX10_parts_197 (by decide) ?_
                    refine rw_iadd dX10_parts_198 ?_
                    refine rw_iast dX10_parts_199 (sh_m_firstLine w) (bw_kl (by decide)) (bw_in g18) ?_
                    obtain ⟨M24, hM24, h⟩ := bw_mlE h
                    refine rw_m hM24.symm ?_
                    refine rw_inc dX10_parts_200 rfl (by decide) ?_
                    refine rw_goto (tgt := 35) dX10_parts_203 (by decide) ?_
                    exact rw_sub (rw_lc rfl (rw_lc rfl (rw_lc rfl (rw_lc rfl (rw_lc rfl rw_lz))))) (ih (v2 + (M 98 v4.toNatClampNeg)) x9 (v4 + 1) M24 h hk)
              · have h := bw_if c15 h
                refine rw_iload dX10_parts_122 rfl ?_
                refine rw_aload_n dX10_parts_124 rfl rfl ?_
                refine rw_get dX10_parts_125 fl_RX10_206 (sh_m w) (bw_kl (by decide)) rfl ?_
                refine rw_iconst (v := 1) dX10_parts_128 (by decide) ?_
                refine rw_isub dX10_parts_129 ?_
                refine rw_icmp_ge (tgt := 136) dX10_parts_130 (by decide) (fun c25 => ?_) (fun c25 => ?_)
                · have h := bw_it c25 h
                  refine rw_aload_n dX10_parts_136 rfl rfl ?_
                  refine rw_iload dX10_parts_137 rfl ?_
                  refine rw_iload dX10_parts_139 rfl ?_
                  refine rw_iload_n dX10_parts_141 rfl rfl ?_
                  refine rw_isub dX10_parts_142 ?_
                  refine rw_iconst (v := 1) dX10_parts_143 (by decide) ?_
                  refine rw_iadd dX10_parts_144 ?_
                  obtain ⟨q26, hq26, h⟩ := bw_bd h
                  refine rw_callV2 dX10_parts_145 ln_RX10_216 mv_X10_priceOf (sh_m w) (bw_kl (by decide)) (ct_X10_priceOf hq26) (Nat.le_of_ble_eq_true rfl) (Nat.le_of_ble_eq_true rfl) (bw_kki ?_)
                  refine rw_aload_n dX10_parts_148 rfl rfl ?_
                  refine rw_get dX10_parts_149 fl_RX10_38 (sh_m w) (bw_kl (by decide)) rfl ?_
                  refine rw_iload dX10_parts_152 rfl ?_
                  refine rw_iconst (v := 1) dX10_parts_154 (by decide) ?_
                  refine rw_iadd dX10_parts_155 ?_
                  refine rw_iald dX10_parts_156 (sh_m_least w) (bw_kl (by decide)) (bw_in g13) ?_
                  refine rw_iadd dX10_parts_157 ?_
                  obtain ⟨x27, hx27, h⟩ := bw_mlE h
                  refine rw_ti hx27 ?_
                  refine rw_istore dX10_parts_158 (by decide) ?_
                  refine rw_aload_n dX10_parts_160 rfl rfl ?_
                  refine rw_get dX10_parts_161 fl_RX10_38 (sh_m w) (bw_kl (by decide)) rfl ?_
                  refine rw_iload_n dX10_parts_164 rfl rfl ?_
                  obtain ⟨g28, h⟩ := bw_gd h
                  refine rw_iald dX10_parts_165 (sh_m_least w) (bw_kl (by decide)) (bw_in g28) ?_
                  refine rw_if_lt (tgt := 180) dX10_parts_166 (by decide) (fun c29 => ?_) (fun c29 => ?_)
                  · have h := bw_it c29 h
                    refine rw_aload_n dX10_parts_180 rfl rfl ?_
                    refine rw_get dX10_parts_181 fl_RX10_38 (sh_m w) (bw_kl (by decide)) rfl ?_
                    refine rw_iload_n dX10_parts_184 rfl rfl ?_
                    refine rw_iload dX10_parts_185 rfl ?_
                    refine rw_iast dX10_parts_187 (sh_m_least w) (bw_kl (by decide)) (bw_in g28) ?_
                    obtain ⟨M30, hM30, h⟩ := bw_mlE h
                    refine rw_m hM30.symm ?_
                    refine rw_aload_n dX10_parts_188 rfl rfl ?_
                    refine rw_get dX10_parts_189 fl_RX10_41 (sh_m w) (bw_kl (by decide)) rfl ?_
                    refine rw_iload_n dX10_parts_192 rfl rfl ?_
                    refine rw_iload dX10_parts_193 rfl ?_
                    refine rw_iload_n dX10_parts_195 rfl rfl ?_
                    refine rw_isub dX10_parts_196 ?_
                    refine rw_iconst (v := 1) dX10_parts_197 (by decide) ?_
                    refine rw_iadd dX10_parts_198 ?_
                    refine rw_iast dX10_parts_199 (sh_m_firstLine w) (bw_kl (by decide)) (bw_in g28) ?_
                    obtain ⟨M31, hM31, h⟩ := bw_mlE h
                    refine rw_m hM31.symm ?_
                    refine rw_inc dX10_parts_200 rfl (by decide) ?_
                    refine rw_goto (tgt := 35) dX10_parts_203 (by decide) ?_
                    exact rw_sub (rw_lc rfl (rw_lc rfl (rw_lc rfl (rw_lc rfl (rw_lc rfl rw_lz))))) (ih (v2 + (M 98 v4.toNatClampNeg)) x9 (v4 + 1) M31 h hk)
                  · have h := bw_if c29 h
                    refine rw_iload dX10_parts_169 rfl ?_
                    refine rw_aload_n dX10_parts_171 rfl rfl ?_
                    refine rw_get dX10_parts_172 fl_RX10_38 (sh_m w) (bw_kl (by decide)) rfl ?_
                    refine rw_iload_n dX10_parts_175 rfl rfl ?_
                    refine rw_iald dX10_parts_176 (sh_m_least w) (bw_kl (by decide)) (bw_in g28) ?_
                    refine rw_icmp_gt (tgt := 200) dX10_parts_177 (by decide) (fun c32 => ?_) (fun c32 => ?_)
                    · have h := bw_it c32 h
                      refine rw_inc dX10_parts_200 rfl (by decide) ?_
                      refine rw_goto (tgt := 35) dX10_parts_203 (by decide) ?_
                      exact rw_sub (rw_lc rfl (rw_lc rfl (rw_lc rfl (rw_lc rfl (rw_lc rfl rw_lz))))) (ih (v2 + (M 98 v4.toNatClampNeg)) x9 (v4 + 1) q26.2 h hk)
                    · have h := bw_if c32 h
                      refine rw_aload_n dX10_parts_180 rfl rfl ?_
                      refine rw_get dX10_parts_181 fl_RX10_38 (sh_m w) (bw_kl (by decide)) rfl ?_
                      refine rw_iload_n dX10_parts_184 rfl rfl ?_
                      refine rw_iload dX10_parts_185 rfl ?_
                      refine rw_iast dX10_parts_187 (sh_m_least w) (bw_kl (by decide)) (bw_in g28) ?_
                      obtain ⟨M33, hM33, h⟩ := bw_mlE h
                      refine rw_m hM33.symm ?_
                      refine rw_aload_n dX10_parts_188 rfl rfl ?_
                      refine rw_get dX10_parts_189 fl_RX10_41 (sh_m w) (bw_kl (by decide)) rfl ?_
                      refine rw_iload_n dX10_parts_192 rfl rfl ?_
                      refine rw_iload dX10_parts_193 rfl ?_
                      refine rw_iload_n dX10_parts_195 rfl rfl ?_
                      refine rw_isub dX10_parts_196 ?_
                      refine rw_iconst (v := 1) dX10_parts_197 (by decide) ?_
                      refine rw_iadd dX10_parts_198 ?_
                      refine rw_iast dX10_parts_199 (sh_m_firstLine w) (bw_kl (by decide)) (bw_in g28) ?_
                      obtain ⟨M34, hM34, h⟩ := bw_mlE h
                      refine rw_m hM34.symm ?_
                      refine rw_inc dX10_parts_200 rfl (by decide) ?_
                      refine rw_goto (tgt := 35) dX10_parts_203 (by decide) ?_
                      exact rw_sub (rw_lc rfl (rw_lc rfl (rw_lc rfl (rw_lc rfl (rw_lc rfl rw_lz))))) (ih (v2 + (M 98 v4.toNatClampNeg)) x9 (v4 + 1) M34 h hk)
                · have h := bw_if c25 h
                  refine rw_goto (tgt := 200) dX10_parts_133 (by decide) ?_
                  refine rw_inc dX10_parts_200 rfl (by decide) ?_
                  refine rw_goto (tgt := 35) dX10_parts_203 (by decide) ?_
                  exact rw_sub (rw_lc rfl (rw_lc rfl (rw_lc rfl (rw_lc rfl (rw_lc rfl rw_lz))))) (ih (v2 + (M 98 v4.toNatClampNeg)) x9 (v4 + 1) M h hk)
        · have h := bw_if c10 h
          refine rw_goto (tgt := 206) dX10_parts_85 (by decide) ?_
          have h := Option.some.inj h
          subst h
          exact rw_sub (rw_lc rfl (rw_lc rfl rw_lz)) hk
      refine rw_icmp_le (tgt := 75) dX10_parts_62 (by decide) (fun c8 => ?_) (fun c8 => ?_)
      · refine rw_iload_n dX10_parts_75 rfl rfl ?_
        simp only [if_pos c8] at key
        exact rw_sub (rw_lc rfl (rw_lc rfl (rw_lc rfl (rw_lc rfl rw_lz)))) key
      · refine rw_aload_n dX10_parts_65 rfl rfl ?_
        refine rw_get dX10_parts_66 fl_RX10_19 (sh_m w) (bw_kl (by decide)) rfl ?_
        refine rw_iload dX10_parts_69 rfl ?_
        refine rw_iald dX10_parts_71 (sh_m_heights w) (bw_kl (by decide)) (bw_in g7) ?_
        refine rw_goto (tgt := 76) dX10_parts_72 (by decide) ?_
        simp only [if_neg c8] at key
        exact rw_sub (rw_lc rfl (rw_lc rfl (rw_lc rfl (rw_lc rfl rw_lz)))) key
set_option maxRecDepth 20000 in
set_option maxHeartbeats 1000000 in
theorem th_X10_parts_L17 {w : WE} {out : Int32 × Mem} : ∀ (n : Nat) (v1 : Int32) (M : Mem), f_X10_parts_L17 n v1 M = some out → RW w 3 0 0 0 0 cX10_parts RX10 7 (some .int) (bw_Z w (bw_pi (out.1) out.2)) 17 [(0, .ref (bw_ad w 93)), (1, .int v1)] [] M := by
  intro n
  induction n with
  | zero => intro v1 M h; cases h
  | succ n ih =>
    intro v1 M h
    rw [f_X10_parts_L17] at h
    refine rw_iload_n dX10_parts_17 rfl rfl ?_
    refine rw_if_lt (tgt := 212) dX10_parts_18 (by decide) (fun c3 => ?_) (fun c3 => ?_)
    · have h := bw_it c3 h
      refine rw_aload_n dX10_parts_212 rfl rfl ?_
      refine rw_get dX10_parts_213 fl_RX10_38 (sh_m w) (bw_kl (by decide)) rfl ?_
      refine rw_iconst (v := 0) dX10_parts_216 (by decide) ?_
      refine rw_iald dX10_parts_217 (sh_m_least w) (bw_kl (by decide)) (bw_in (show bw_ib (0 : Int32) 26 = true by decide)) ?_
      have h := Option.some.inj h
      subst h
      exact rw_iret dX10_parts_218 ⟨rfl, rfl⟩
    · have h := bw_if c3 h
      refine rw_aload_n dX10_parts_21 rfl rfl ?_
      refine rw_get dX10_parts_22 fl_RX10_38 (sh_m w) (bw_kl (by decide)) rfl ?_
      refine rw_iload_n dX10_parts_25 rfl rfl ?_
      refine rw_iconst (v := -1) dX10_parts_26 (by decide) ?_
      obtain ⟨g4, h⟩ := bw_gd h
      refine rw_iast dX10_parts_27 (sh_m_least w) (bw_kl (by decide)) (bw_in g4) ?_
      obtain ⟨M5, hM5, h⟩ := bw_mlE h
      refine rw_m hM5.symm ?_
      refine rw_iconst (v := 0) dX10_parts_28 (by decide) ?_
      refine rw_istore_n dX10_parts_29 rfl (by decide) ?_
      refine rw_iconst (v := 0) dX10_parts_30 (by decide) ?_
      refine rw_istore_n dX10_parts_31 rfl (by decide) ?_
      refine rw_iload_n dX10_parts_32 rfl rfl ?_
      refine rw_istore dX10_parts_33 (by decide) ?_
      obtain ⟨q35, hq35, h⟩ := bw_bd h
      refine rw_sub (rw_lc rfl (rw_lc rfl (rw_lc rfl (rw_lc rfl (rw_lc rfl rw_lz))))) (th_X10_parts_L35 bw_fu (0 : Int32) (0 : Int32) v1 M5 hq35 ?_)
      refine rw_dec dX10_parts_206 rfl (by decide) ?_
      refine rw_goto (tgt := 17) dX10_parts_209 (by decide) ?_
      exact rw_sub (rw_lc rfl (rw_lc rfl rw_lz)) (ih (v1 - 1) q35 h)
set_option maxRecDepth 20000 in
set_option maxHeartbeats 1000000 in
theorem ct_X10_parts {w : WE} {M : Mem} {out : Int32 × Mem} (h : f_X10_parts M = some out) : Ct w 3 yX10_parts cX10_parts 7 (some .int) [.ref (bw_ad w 93)] M (bw_pi (out.1) out.2) := by
  refine Ct.of (own := RX10) rfl (by decide) (by intro v hv; rw [List.mem_singleton.mp hv]; first | rfl | exact bw_cat_rf _) (Nat.le_of_ble_eq_true rfl) ?_
  unfold f_X10_parts at h
  show RW w 3 0 0 0 0 cX10_parts RX10 7 (some .int) (bw_Z w (bw_pi (out.1) out.2)) 0 [(0, .ref (bw_ad w 93))] [] M
  refine rw_aload_n dX10_parts_0 rfl rfl ?_
  refine rw_get dX10_parts_1 fl_RX10_38 (sh_m w) (bw_kl (by decide)) rfl ?_
  refine rw_aload_n dX10_parts_4 rfl rfl ?_
  refine rw_get dX10_parts_5 fl_RX10_206 (sh_m w) (bw_kl (by decide)) rfl ?_
  refine rw_iconst (v := 0) dX10_parts_8 (by decide) ?_
  obtain ⟨g1, h⟩ := bw_gd h
  refine rw_iast dX10_parts_9 (sh_m_least w) (bw_kl (by decide)) (bw_in g1) ?_
  obtain ⟨M2, hM2, h⟩ := bw_mlE h
  refine rw_m hM2.symm ?_
  refine rw_aload_n dX10_parts_10 rfl rfl ?_
  refine rw_get dX10_parts_11 fl_RX10_206 (sh_m w) (bw_kl (by decide)) rfl ?_
  refine rw_iconst (v := 1) dX10_parts_14 (by decide) ?_
  refine rw_isub dX10_parts_15 ?_
  refine rw_istore_n dX10_parts_16 rfl (by decide) ?_
  exact rw_sub (rw_lc rfl (rw_lc rfl rw_lz)) (th_X10_parts_L17 bw_fu ((M2 93 7) - (1 : Int32)) M2 h)
set_option maxRecDepth 20000 in
set_option maxHeartbeats 1000000 in
theorem th_X10_tellsLines_L34 {w : WE} {v1 : Int32} {Z : Option Value → Heap → Prop} {out : Mem} : ∀ (n : Nat) (v2 : Int32) (M : Mem), f_X10_tellsLines_L34 v1 n v2 M = some out → RW w 0 0 0 0 0 cX10_tellsLines RX10 3 none Z 62 [(0, .ref (bw_ad w 93)), (1, .int v1)] [] out → RW w 0 0 0 0 0 cX10_tellsLines RX10 3 none Z 34 [(0, .ref (bw_ad w 93)), (1, .int v1), (2, .int v2)] [] M := by
  intro n
  induction n with
  | zero => intro v2 M h hk; cases h
  | succ n ih =>
    intro v2 M h hk
    rw [f_X10_tellsLines_L34] at h
    refine rw_iload_n dX10_tellsLines_34 rfl rfl ?_
    refine rw_aload_n dX10_tellsLines_35 rfl rfl ?_
    refine rw_get dX10_tellsLines_36 fl_RX10_41 (sh_m w) (bw_kl (by decide)) rfl ?_
    refine rw_iload_n dX10_tellsLines_39 rfl rfl ?_
    obtain ⟨g10, h⟩ := bw_gd h
    refine rw_iald dX10_tellsLines_40 (sh_m_firstLine w) (bw_kl (by decide)) (bw_in g10) ?_
    refine rw_icmp_ge (tgt := 62) dX10_tellsLines_41 (by decide) (fun c11 => ?_) (fun c11 => ?_)
    · have h := bw_it c11 h
      have h := Option.some.inj h
      subst h
      exact rw_sub (rw_lc rfl (rw_lc rfl rw_lz)) hk
    · have h := bw_if c11 h
      refine rw_aload_n dX10_tellsLines_44 rfl rfl ?_
      refine rw_get dX10_tellsLines_45 fl_RX10_47 (sh_m w) (bw_kl (by decide)) rfl ?_
      refine rw_iload_n dX10_tellsLines_48 rfl rfl ?_
      refine rw_iload_n dX10_tellsLines_49 rfl rfl ?_
      refine rw_iadd dX10_tellsLines_50 ?_
      refine rw_aload_n dX10_tellsLines_51 rfl rfl ?_
      refine rw_get dX10_tellsLines_52 fl_RX10_219 (sh_m w) (bw_kl (by decide)) rfl ?_
      obtain ⟨g12, h⟩ := bw_gd h
      refine rw_iast dX10_tellsLines_55 (sh_m_lineOf w) (bw_kl (by decide)) (bw_in g12) ?_
      obtain ⟨M13, hM13, h⟩ := bw_mlE h
      refine rw_m hM13.symm ?_
      refine rw_inc dX10_tellsLines_56 rfl (by decide) ?_
      refine rw_goto (tgt := 34) dX10_tellsLines_59 (by decide) ?_
      exact rw_sub (rw_lc rfl (rw_lc rfl (rw_lc rfl rw_lz))) (ih (v2 + 1) M13 h hk)
set_option maxRecDepth 20000 in
set_option maxHeartbeats 1000000 in
theorem th_X10_tellsLines_L7 {w : WE} {out : Mem} : ∀ (n : Nat) (v1 : Int32) (M : Mem), f_X10_tellsLines_L7 n v1 M = some out → RW w 0 0 0 0 0 cX10_tellsLines RX10 3 none (bw_Z w (bw_pv out)) 7 [(0, .ref (bw_ad w 93)), (1, .int v1)] [] M := by
  intro n
  induction n with
  | zero => intro v1 M h; cases h
  | succ n ih =>
    intro v1 M h
    rw [f_X10_tellsLines_L7] at h
    refine rw_aload_n dX10_tellsLines_7 rfl rfl ?_
    refine rw_get dX10_tellsLines_8 fl_RX10_141 (sh_m w) (bw_kl (by decide)) rfl ?_
    refine rw_if_lt (tgt := 84) dX10_tellsLines_11 (by decide) (fun c2 => ?_) (fun c2 => ?_)
    · have h := bw_it c2 h
      refine rw_aload_n dX10_tellsLines_84 rfl rfl ?_
      refine rw_get dX10_tellsLines_85 fl_RX10_44 (sh_m w) (bw_kl (by decide)) rfl ?_
      refine rw_aload_n dX10_tellsLines_88 rfl rfl ?_
      refine rw_get dX10_tellsLines_89 fl_RX10_219 (sh_m w) (bw_kl (by decide)) rfl ?_
      refine rw_iload_n dX10_tellsLines_92 rfl rfl ?_
      obtain ⟨g3, h⟩ := bw_gd h
      refine rw_iast dX10_tellsLines_93 (sh_m_starts w) (bw_kl (by decide)) (bw_in g3) ?_
      obtain ⟨M4, hM4, h⟩ := bw_mlE h
      refine rw_m hM4.symm ?_
      have h := Option.some.inj h
      subst h
      exact rw_vret dX10_tellsLines_94 ⟨rfl, rfl⟩
    · have h := bw_if c2 h
      refine rw_iload_n dX10_tellsLines_14 rfl rfl ?_
      refine rw_aload_n dX10_tellsLines_15 rfl rfl ?_
      refine rw_get dX10_tellsLines_16 fl_RX10_206 (sh_m w) (bw_kl (by decide)) rfl ?_
      refine rw_icmp_ge (tgt := 84) dX10_tellsLines_19 (by decide) (fun c5 => ?_) (fun c5 => ?_)
      · have h := bw_it c5 h
        refine rw_aload_n dX10_tellsLines_84 rfl rfl ?_
        refine rw_get dX10_tellsLines_85 fl_RX10_44 (sh_m w) (bw_kl (by decide)) rfl ?_
        refine rw_aload_n dX10_tellsLines_88 rfl rfl ?_
        refine rw_get dX10_tellsLines_89 fl_RX10_219 (sh_m w) (bw_kl (by decide)) rfl ?_
        refine rw_iload_n dX10_tellsLines_92 rfl rfl ?_
        obtain ⟨g6, h⟩ := bw_gd h
        refine rw_iast dX10_tellsLines_93 (sh_m_starts w) (bw_kl (by decide)) (bw_in g6) ?_
        obtain ⟨M7, hM7, h⟩ := bw_mlE h
        refine rw_m hM7.symm ?_
        have h := Option.some.inj h
        subst h
        exact rw_vret dX10_tellsLines_94 ⟨rfl, rfl⟩
      · have h := bw_if c5 h
        refine rw_aload_n dX10_tellsLines_22 rfl rfl ?_
        refine rw_get dX10_tellsLines_23 fl_RX10_44 (sh_m w) (bw_kl (by decide)) rfl ?_
        refine rw_aload_n dX10_tellsLines_26 rfl rfl ?_
        refine rw_get dX10_tellsLines_27 fl_RX10_219 (sh_m w) (bw_kl (by decide)) rfl ?_
        refine rw_iload_n dX10_tellsLines_30 rfl rfl ?_
        obtain ⟨g8, h⟩ := bw_gd h
        refine rw_iast dX10_tellsLines_31 (sh_m_starts w) (bw_kl (by decide)) (bw_in g8) ?_
        obtain ⟨M9, hM9, h⟩ := bw_mlE h
        refine rw_m hM9.symm ?_
        refine rw_iconst (v := 0) dX10_tellsLines_32 (by decide) ?_
        refine rw_istore_n dX10_tellsLines_33 rfl (by decide) ?_
        obtain ⟨q14, hq14, h⟩ := bw_bd h
        refine rw_sub (rw_lc rfl (rw_lc rfl (rw_lc rfl rw_lz))) (th_X10_tellsLines_L34 bw_fu (0 : Int32) M9 hq14 ?_)
        refine rw_iload_n dX10_tellsLines_62 rfl rfl ?_
        refine rw_aload_n dX10_tellsLines_63 rfl rfl ?_
        refine rw_get dX10_tellsLines_64 fl_RX10_41 (sh_m w) (bw_kl (by decide)) rfl ?_
        refine rw_iload_n dX10_tellsLines_67 rfl rfl ?_
        obtain ⟨g15, h⟩ := bw_gd h
        refine rw_iald dX10_tellsLines_68 (sh_m_firstLine w) (bw_kl (by decide)) (bw_in g15) ?_
        refine rw_iadd dX10_tellsLines_69 ?_
        obtain ⟨x16, hx16, h⟩ := bw_mlE h
        refine rw_ti hx16 ?_
        refine rw_istore_n dX10_tellsLines_70 rfl (by decide) ?_
        refine rw_aload_n dX10_tellsLines_71 rfl rfl ?_
        refine rw_dup dX10_tellsLines_72 rfl ?_
        refine rw_get dX10_tellsLines_73 fl_RX10_219 (sh_m w) (bw_kl (by decide)) rfl ?_
        refine rw_iconst (v := 1) dX10_tellsLines_76 (by decide) ?_
        refine rw_iadd dX10_tellsLines_77 ?_
        refine rw_puti dX10_tellsLines_78 fl_RX10_219 fp_10_17 (sh_m w) (bw_kl (by decide)) (by decide) (fun _ => rfl) (fun _ => Nat.le_of_ble_eq_true rfl) ?_
        obtain ⟨M17, hM17, h⟩ := bw_mlE h
        refine rw_m hM17.symm ?_
        refine rw_goto (tgt := 7) dX10_tellsLines_81 (by decide) ?_
        exact rw_sub (rw_lc rfl (rw_lc rfl rw_lz)) (ih x16 M17 h)
set_option maxRecDepth 20000 in
set_option maxHeartbeats 1000000 in
theorem ct_X10_tellsLines {w : WE} {M : Mem} {out : Mem} (h : f_X10_tellsLines M = some out) : Ct w 0 yX10_tellsLines cX10_tellsLines 3 none [.ref (bw_ad w 93)] M (bw_pv out) := by
  refine Ct.of (own := RX10) rfl (by decide) (by intro v hv; rw [List.mem_singleton.mp hv]; first | rfl | exact bw_cat_rf _) (Nat.le_of_ble_eq_true rfl) ?_
  unfold f_X10_tellsLines at h
  show RW w 0 0 0 0 0 cX10_tellsLines RX10 3 none (bw_Z w (bw_pv out)) 0 [(0, .ref (bw_ad w 93))] [] M
  refine rw_aload_n dX10_tellsLines_0 rfl rfl ?_
  refine rw_iconst (v := 0) dX10_tellsLines_1 (by decide) ?_
  refine rw_puti dX10_tellsLines_2 fl_RX10_219 fp_10_17 (sh_m w) (bw_kl (by decide)) (by decide) (fun _ => rfl) (fun _ => Nat.le_of_ble_eq_true rfl) ?_
  obtain ⟨M1, hM1, h⟩ := bw_mlE h
  refine rw_m hM1.symm ?_
  refine rw_iconst (v := 0) dX10_tellsLines_5 (by decide) ?_
  refine rw_istore_n dX10_tellsLines_6 rfl (by decide) ?_
  exact rw_sub (rw_lc rfl (rw_lc rfl rw_lz)) (th_X10_tellsLines_L7 bw_fu (0 : Int32) M1 h)
set_option maxRecDepth 20000 in
set_option maxHeartbeats 1000000 in
theorem ct_X10_settles {w : WE} {M : Mem} {out : Mem} (h : f_X10_settles M = some out) : Ct w 4 yX10_settles cX10_settles 1 none [.ref (bw_ad w 93)] M (bw_pv out) := by
  refine Ct.of (own := RX10) rfl (by decide) (by intro v hv; rw [List.mem_singleton.mp hv]; first | rfl | exact bw_cat_rf _) (Nat.le_of_ble_eq_true rfl) ?_
  unfold f_X10_settles at h
  show RW w 4 0 0 0 0 cX10_settles RX10 1 none (bw_Z w (bw_pv out)) 0 [(0, .ref (bw_ad w 93))] [] M
  refine rw_aload_n dX10_settles_0 rfl rfl ?_
  obtain ⟨q1, hq1, h⟩ := bw_bd h
  refine rw_callV0 dX10_settles_1 ln_RX10_222 mv_X10_asks (sh_m w) (bw_kl (by decide)) (ct_X10_asks hq1) (Nat.le_of_ble_eq_true rfl) (Nat.le_of_ble_eq_true rfl) (bw_kkv ?_)
  refine rw_aload_n dX10_settles_4 rfl rfl ?_
  obtain ⟨q2, hq2, h⟩ := bw_bd h
  refine rw_callV0 dX10_settles_5 ln_RX10_225 mv_X10_takesAll (sh_m w) (bw_kl (by decide)) (ct_X10_takesAll hq2) (Nat.le_of_ble_eq_true rfl) (Nat.le_of_ble_eq_true rfl) (bw_kkv ?_)
  refine rw_aload_n dX10_settles_8 rfl rfl ?_
  refine rw_aload_n dX10_settles_9 rfl rfl ?_
  obtain ⟨q3, hq3, h⟩ := bw_bd h
  refine rw_callV0 dX10_settles_10 ln_RX10_228 mv_X10_parts (sh_m w) (bw_kl (by decide)) (ct_X10_parts hq3) (Nat.le_of_ble_eq_true rfl) (Nat.le_of_ble_eq_true rfl) (bw_kki ?_)
  refine rw_puti dX10_settles_13 fl_RX10_141 fp_10_16 (sh_m w) (bw_kl (by decide)) (by decide) (fun _ => rfl) (fun _ => Nat.le_of_ble_eq_true rfl) ?_
  obtain ⟨M4, hM4, h⟩ := bw_mlE h
  refine rw_m hM4.symm ?_
  refine rw_aload_n dX10_settles_16 rfl rfl ?_
  obtain ⟨q5, hq5, h⟩ := bw_bd h
  refine rw_callV0 dX10_settles_17 ln_RX10_231 mv_X10_tellsLines (sh_m w) (bw_kl (by decide)) (ct_X10_tellsLines hq5) (Nat.le_of_ble_eq_true rfl) (Nat.le_of_ble_eq_true rfl) (bw_kkv ?_)
  have h := Option.some.inj h
  subst h
  exact rw_vret dX10_settles_20 ⟨rfl, rfl⟩
set_option maxRecDepth 20000 in
set_option maxHeartbeats 1000000 in
theorem ct_X10_bookTold {w : WE} {M : Mem} {v1 : Int32} {v2 : Int32} {out : Int32 × Mem} (h : f_X10_bookTold M v1 v2 = some out) : Ct w 5 yX10_bookTold cX10_bookTold 3 (some .int) [.ref (bw_ad w 93), .int v1, .int v2] M (bw_pi (out.1) out.2) := by
  refine Ct.of (own := RX10) rfl (by decide) (by intro v hv; simp only [List.mem_cons, List.not_mem_nil, or_false] at hv; rcases hv with rfl | rfl | rfl <;> first | rfl | exact bw_cat_rf _) (Nat.le_of_ble_eq_true rfl) ?_
  unfold f_X10_bookTold at h
  show RW w 5 0 0 0 0 cX10_bookTold RX10 3 (some .int) (bw_Z w (bw_pi (out.1) out.2)) 0 [(0, .ref (bw_ad w 93)), (1, .int v1), (2, .int v2)] [] M
  refine rw_aload_n dX10_bookTold_0 rfl rfl ?_
  refine rw_iload_n dX10_bookTold_1 rfl rfl ?_
  refine rw_callV1 dX10_bookTold_2 ln_RX10_131 mv_X10_isBook (sh_m w) (bw_kl (by decide)) (ct_X10_isBook rfl) (Nat.le_of_ble_eq_true rfl) (Nat.le_of_ble_eq_true rfl) (bw_kkz (fun z1 => ?_))
  refine rw_if_eq (tgt := 17) dX10_bookTold_5 (by decide) (fun c2 => ?_) (fun c2 => ?_)
  · have h := bw_it c2 h
    refine rw_ldc dX10_bookTold_17 cn_RX10_125 ?_
    have h := Option.some.inj h
    subst h
    exact rw_iret dX10_bookTold_19 ⟨rfl, rfl⟩
  · have h := bw_if c2 h
    refine rw_iload_n dX10_bookTold_8 rfl rfl ?_
    refine rw_iconst (v := 0) dX10_bookTold_9 (by decide) ?_
    refine rw_iconst (v := 4) dX10_bookTold_10 (by decide) ?_
    refine rw_callS3 dX10_bookTold_11 ln_RX10_117 ms_X10_in (ct_X10_in rfl) (Nat.le_of_ble_eq_true rfl) (Nat.le_of_ble_eq_true rfl) (bw_kkz (fun z3 => ?_))
    refine rw_if_ne (tgt := 20) dX10_bookTold_14 (by decide) (fun c4 => ?_) (fun c4 => ?_)
    · have h := bw_if c4 h
      refine rw_iload_n dX10_bookTold_20 rfl rfl ?_
      refine rw_iconst (v := 4) dX10_bookTold_21 (by decide) ?_
      refine rw_icmp_ge (tgt := 32) dX10_bookTold_22 (by decide) (fun c5 => ?_) (fun c5 => ?_)
      · have h := bw_it c5 h
        refine rw_aload_n dX10_bookTold_32 rfl rfl ?_
        obtain ⟨q6, hq6, h⟩ := bw_bd h
        refine rw_callV0 dX10_bookTold_33 ln_RX10_138 mv_X10_settles (sh_m w) (bw_kl (by decide)) (ct_X10_settles hq6) (Nat.le_of_ble_eq_true rfl) (Nat.le_of_ble_eq_true rfl) (bw_kkv ?_)
        refine rw_aload_n dX10_bookTold_36 rfl rfl ?_
        refine rw_get dX10_bookTold_37 fl_RX10_141 (sh_m w) (bw_kl (by decide)) rfl ?_
        refine rw_if_ge (tgt := 48) dX10_bookTold_40 (by decide) (fun c7 => ?_) (fun c7 => ?_)
        · have h := bw_it c7 h
          refine rw_aload_n dX10_bookTold_48 rfl rfl ?_
          refine rw_get dX10_bookTold_49 fl_RX10_47 (sh_m w) (bw_kl (by decide)) rfl ?_
          refine rw_iload_n dX10_bookTold_52 rfl rfl ?_
          obtain ⟨g8, h⟩ := bw_gd h
          refine rw_iald dX10_bookTold_53 (sh_m_lineOf w) (bw_kl (by decide)) (bw_in g8) ?_
          have h := Option.some.inj h
          subst h
          exact rw_iret dX10_bookTold_54 ⟨rfl, rfl⟩
        · have h := bw_if c7 h
          refine rw_ldc dX10_bookTold_43 cn_RX10_145 ?_
          refine rw_goto (tgt := 54) dX10_bookTold_45 (by decide) ?_
          have h := Option.some.inj h
          subst h
          exact rw_iret dX10_bookTold_54 ⟨rfl, rfl⟩
      · have h := bw_if c5 h
        refine rw_aload_n dX10_bookTold_25 rfl rfl ?_
        refine rw_iload_n dX10_bookTold_26 rfl rfl ?_
        refine rw_iload_n dX10_bookTold_27 rfl rfl ?_
        obtain ⟨q9, hq9, h⟩ := bw_bd h
        refine rw_callV2 dX10_bookTold_28 ln_RX10_134 mv_X10_book4 (sh_m w) (bw_kl (by decide)) (ct_X10_book4 hq9) (Nat.le_of_ble_eq_true rfl) (Nat.le_of_ble_eq_true rfl) (bw_kki ?_)
        have h := Option.some.inj h
        subst h
        exact rw_iret dX10_bookTold_31 ⟨rfl, rfl⟩
    · have h := bw_it c4 h
      refine rw_ldc dX10_bookTold_17 cn_RX10_125 ?_
      have h := Option.some.inj h
      subst h
      exact rw_iret dX10_bookTold_19 ⟨rfl, rfl⟩
set_option maxRecDepth 20000 in
set_option maxHeartbeats 1000000 in
theorem ct_X10_tie {w : WE} {M : Mem} {v1 : Int32} {v2 : Int32} {out : Int32 × Mem} (h : f_X10_tie M v1 v2 = some out) : Ct w 2 yX10_tie cX10_tie 5 (some .int) [.ref (bw_ad w 93), .int v1, .int v2] M (bw_pi (out.1) out.2) := by
  refine Ct.of (own := RX10) rfl (by decide) (by intro v hv; simp only [List.mem_cons, List.not_mem_nil, or_false] at hv; rcases hv with rfl | rfl | rfl <;> first | rfl | exact bw_cat_rf _) (Nat.le_of_ble_eq_true rfl) ?_
  unfold f_X10_tie at h
  show RW w 2 0 0 0 0 cX10_tie RX10 5 (some .int) (bw_Z w (bw_pi (out.1) out.2)) 0 [(0, .ref (bw_ad w 93)), (1, .int v1), (2, .int v2)] [] M
  refine rw_aload_n dX10_tie_0 rfl rfl ?_
  refine rw_iload_n dX10_tie_1 rfl rfl ?_
  refine rw_callV1 dX10_tie_2 ln_RX10_131 mv_X10_isBook (sh_m w) (bw_kl (by decide)) (ct_X10_isBook rfl) (Nat.le_of_ble_eq_true rfl) (Nat.le_of_ble_eq_true rfl) (bw_kkz (fun z1 => ?_))
  refine rw_if_ne (tgt := 11) dX10_tie_5 (by decide) (fun c2 => ?_) (fun c2 => ?_)
  · have h := bw_if c2 h
    refine rw_bipush (v := 14) dX10_tie_11 (by decide) ?_
    refine rw_iconst (v := 4) dX10_tie_13 (by decide) ?_
    refine rw_iload_n dX10_tie_14 rfl rfl ?_
    refine rw_imul dX10_tie_15 ?_
    refine rw_iadd dX10_tie_16 ?_
    refine rw_iconst (v := 3) dX10_tie_17 (by decide) ?_
    refine rw_iadd dX10_tie_18 ?_
    obtain ⟨x3, hx3, h⟩ := bw_mlE h
    refine rw_ti hx3 ?_
    refine rw_istore_n dX10_tie_19 rfl (by decide) ?_
    refine rw_aload_n dX10_tie_20 rfl rfl ?_
    refine rw_get dX10_tie_21 fl_RX10_9 (sh_m w) (bw_kl (by decide)) rfl ?_
    refine rw_iload_n dX10_tie_24 rfl rfl ?_
    obtain ⟨g4, h⟩ := bw_gd h
    refine rw_iald dX10_tie_25 (sh_m_now w) (bw_kl (by decide)) (bw_in g4) ?_
    refine rw_istore dX10_tie_26 (by decide) ?_
    refine rw_aload_n dX10_tie_28 rfl rfl ?_
    refine rw_get dX10_tie_29 fl_RX10_9 (sh_m w) (bw_kl (by decide)) rfl ?_
    refine rw_iload_n dX10_tie_32 rfl rfl ?_
    refine rw_iload_n dX10_tie_33 rfl rfl ?_
    have key : RW w 2 0 0 0 0 cX10_tie RX10 5 (some .int) (bw_Z w (bw_pi (out.1) out.2)) 42 [(0, .ref (bw_ad w 93)), (3, .int x3), (4, .int (M 94 x3.toNatClampNeg))] [.int (if v2 = 0 then (0 : Int32) else (1 : Int32)), .int x3, .ref (bw_ad w 94)] M := by
      refine rw_iast dX10_tie_42 (sh_m_now w) (bw_kl (by decide)) (bw_in g4) ?_
      obtain ⟨M6, hM6, h⟩ := bw_mlE h
      refine rw_m hM6.symm ?_
      refine rw_iload dX10_tie_43 rfl ?_
      refine rw_aload_n dX10_tie_45 rfl rfl ?_
      refine rw_get dX10_tie_46 fl_RX10_9 (sh_m w) (bw_kl (by decide)) rfl ?_
      refine rw_iload_n dX10_tie_49 rfl rfl ?_
      refine rw_iald dX10_tie_50 (sh_m_now w) (bw_kl (by decide)) (bw_in g4) ?_
      have key : RW w 2 0 0 0 0 cX10_tie RX10 5 (some .int) (bw_Z w (bw_pi (out.1) out.2)) 59 [] [.int (if (M 94 x3.toNatClampNeg) = (M6 94 x3.toNatClampNeg) then (0 : Int32) else (1 : Int32))] M6 := by
        have h := Option.some.inj h
        subst h
        exact rw_iret dX10_tie_59 ⟨rfl, rfl⟩
      refine rw_icmp_ne (tgt := 58) dX10_tie_51 (by decide) (fun c7 => ?_) (fun c7 => ?_)
      · refine rw_iconst (v := 1) dX10_tie_58 (by decide) ?_
        simp only [if_neg c7] at key
        exact rw_sub rw_lz key
      · refine rw_iconst (v := 0) dX10_tie_54 (by decide) ?_
        refine rw_goto (tgt := 59) dX10_tie_55 (by decide) ?_
        simp only [if_pos c7] at key
        exact rw_sub rw_lz key
    refine rw_if_eq (tgt := 41) dX10_tie_34 (by decide) (fun c5 => ?_) (fun c5 => ?_)
    · refine rw_iconst (v := 0) dX10_tie_41 (by decide) ?_
      simp only [if_pos c5] at key
      exact rw_sub (rw_lc rfl (rw_lc rfl (rw_lc rfl rw_lz))) key
    · refine rw_iconst (v := 1) dX10_tie_37 (by decide) ?_
      refine rw_goto (tgt := 42) dX10_tie_38 (by decide) ?_
      simp only [if_neg c5] at key
      exact rw_sub (rw_lc rfl (rw_lc rfl (rw_lc rfl rw_lz))) key
  · have h := bw_it c2 h
    refine rw_ldc dX10_tie_8 cn_RX10_125 ?_
    have h := Option.some.inj h
    subst h
    exact rw_iret dX10_tie_10 ⟨rfl, rfl⟩
set_option maxRecDepth 20000 in
set_option maxHeartbeats 1000000 in
theorem ct_X10_draw {w : WE} {M : Mem} {out : Int32 × Mem} (h : f_X10_draw M = some out) : Ct w 0 yX10_draw cX10_draw 1 (some .int) [.ref (bw_ad w 93)] M (bw_pi (out.1) out.2) := by
  refine Ct.of (own := RX10) rfl (by decide) (by intro v hv; rw [List.mem_singleton.mp hv]; first | rfl | exact bw_cat_rf _) (Nat.le_of_ble_eq_true rfl) ?_
  unfold f_X10_draw at h
  show RW w 0 0 0 0 0 cX10_draw RX10 1 (some .int) (bw_Z w (bw_pi (out.1) out.2)) 0 [(0, .ref (bw_ad w 93))] [] M
  refine rw_aload_n dX10_draw_0 rfl rfl ?_
  refine rw_get dX10_draw_1 fl_RX10_9 (sh_m w) (bw_kl (by decide)) rfl ?_
  refine rw_iconst (v := 0) dX10_draw_4 (by decide) ?_
  refine rw_aload_n dX10_draw_5 rfl rfl ?_
  refine rw_get dX10_draw_6 fl_RX10_9 (sh_m w) (bw_kl (by decide)) rfl ?_
  refine rw_iconst (v := 0) dX10_draw_9 (by decide) ?_
  refine rw_iald dX10_draw_10 (sh_m_now w) (bw_kl (by decide)) (bw_in (show bw_ib (0 : Int32) 1530 = true by decide)) ?_
  refine rw_ldc dX10_draw_11 cn_RX10_146 ?_
  refine rw_imul dX10_draw_13 ?_
  refine rw_sipush (v := 12345) dX10_draw_14 (by decide) ?_
  refine rw_iadd dX10_draw_17 ?_
  refine rw_iast dX10_draw_18 (sh_m_now w) (bw_kl (by decide)) (bw_in (show bw_ib (0 : Int32) 1530 = true by decide)) ?_
  obtain ⟨M1, hM1, h⟩ := bw_mlE h
  refine rw_m hM1.symm ?_
  refine rw_aload_n dX10_draw_19 rfl rfl ?_
  refine rw_get dX10_draw_20 fl_RX10_9 (sh_m w) (bw_kl (by decide)) rfl ?_
  refine rw_iconst (v := 0) dX10_draw_23 (by decide) ?_
  refine rw_iald dX10_draw_24 (sh_m_now w) (bw_kl (by decide)) (bw_in (show bw_ib (0 : Int32) 1530 = true by decide)) ?_
  refine rw_bipush (v := 8) dX10_draw_25 (by decide) ?_
  refine rw_iushr dX10_draw_27 ?_
  have h := Option.some.inj h
  subst h
  exact rw_iret dX10_draw_28 ⟨rfl, rfl⟩
set_option maxRecDepth 20000 in
set_option maxHeartbeats 1000000 in
theorem th_X10_deal_L15 {w : WE} {v1 : Int32} {out : Int32 × Mem} : ∀ (n : Nat) (v2 : Int32) (M : Mem), f_X10_deal_L15 v1 n v2 M = some out → RW w 1 0 0 0 0 cX10_deal RX10 5 (some .int) (bw_Z w (bw_pi (out.1) out.2)) 15 [(0, .ref (bw_ad w 93)), (1, .int v1), (2, .int v2)] [] M := by
  intro n
  induction n with
  | zero => intro v2 M h; cases h
  | succ n ih =>
    intro v2 M h
    rw [f_X10_deal_L15] at h
    refine rw_iload_n dX10_deal_15 rfl rfl ?_
    refine rw_iload_n dX10_deal_16 rfl rfl ?_
    refine rw_icmp_ge (tgt := 73) dX10_deal_17 (by decide) (fun c3 => ?_) (fun c3 => ?_)
    · have h := bw_it c3 h
      refine rw_iload_n dX10_deal_73 rfl rfl ?_
      have h := Option.some.inj h
      subst h
      exact rw_iret dX10_deal_74 ⟨rfl, rfl⟩
    · have h := bw_if c3 h
      refine rw_aload_n dX10_deal_20 rfl rfl ?_
      refine rw_get dX10_deal_21 fl_RX10_9 (sh_m w) (bw_kl (by decide)) rfl ?_
      refine rw_iconst (v := 4) dX10_deal_24 (by decide) ?_
      refine rw_iald dX10_deal_25 (sh_m_now w) (bw_kl (by decide)) (bw_in (show bw_ib (4 : Int32) 1530 = true by decide)) ?_
      refine rw_bipush (v := 24) dX10_deal_26 (by decide) ?_
      refine rw_icmp_ge (tgt := 73) dX10_deal_28 (by decide) (fun c4 => ?_) (fun c4 => ?_)
      · have h := bw_it c4 h
        refine rw_iload_n dX10_deal_73 rfl rfl ?_
        have h := Option.some.inj h
        subst h
        exact rw_iret dX10_deal_74 ⟨rfl, rfl⟩
      · have h := bw_if c4 h
        refine rw_bipush (v := 20) dX10_deal_31 (by decide) ?_
        refine rw_aload_n dX10_deal_33 rfl rfl ?_
        obtain ⟨q5, hq5, h⟩ := bw_bd h
        refine rw_callV0 dX10_deal_34 ln_RX10_147 mv_X10_draw (sh_m w) (bw_kl (by decide)) (ct_X10_draw hq5) (Nat.le_of_ble_eq_true rfl) (Nat.le_of_ble_eq_true rfl) (bw_kki ?_)
        refine rw_bipush (v := 30) dX10_deal_37 (by decide) ?_
        refine rw_irem dX10_deal_39 (by decide) ?_
        refine rw_iadd dX10_deal_40 ?_
        obtain ⟨x6, hx6, h⟩ := bw_mlE h
        refine rw_ti hx6 ?_
        refine rw_istore_n dX10_deal_41 rfl (by decide) ?_
        refine rw_iconst (v := 1) dX10_deal_42 (by decide) ?_
        refine rw_aload_n dX10_deal_43 rfl rfl ?_
        obtain ⟨q7, hq7, h⟩ := bw_bd h
        refine rw_callV0 dX10_deal_44 ln_RX10_147 mv_X10_draw (sh_m w) (bw_kl (by decide)) (ct_X10_draw hq7) (Nat.le_of_ble_eq_true rfl) (Nat.le_of_ble_eq_true rfl) (bw_kki ?_)
        refine rw_bipush (v := 20) dX10_deal_47 (by decide) ?_
        refine rw_irem dX10_deal_49 (by decide) ?_
        refine rw_iadd dX10_deal_50 ?_
        obtain ⟨x8, hx8, h⟩ := bw_mlE h
        refine rw_ti hx8 ?_
        refine rw_istore dX10_deal_51 (by decide) ?_
        refine rw_aload_n dX10_deal_53 rfl rfl ?_
        refine rw_iload_n dX10_deal_54 rfl rfl ?_
        refine rw_iload dX10_deal_55 rfl ?_
        refine rw_aload_n dX10_deal_57 rfl rfl ?_
        obtain ⟨q9, hq9, h⟩ := bw_bd h
        refine rw_callV0 dX10_deal_58 ln_RX10_147 mv_X10_draw (sh_m w) (bw_kl (by decide)) (ct_X10_draw hq9) (Nat.le_of_ble_eq_true rfl) (Nat.le_of_ble_eq_true rfl) (bw_kki ?_)
        refine rw_bipush (v := 8) dX10_deal_61 (by decide) ?_
        refine rw_irem dX10_deal_63 (by decide) ?_
        obtain ⟨q10, hq10, h⟩ := bw_bd h
        refine rw_callV3 dX10_deal_64 ln_RX10_127 mv_X10_comes (sh_m w) (bw_kl (by decide)) (ct_X10_comes hq10) (Nat.le_of_ble_eq_true rfl) (Nat.le_of_ble_eq_true rfl) (bw_kkv ?_)
        refine rw_inc dX10_deal_67 rfl (by decide) ?_
        refine rw_goto (tgt := 15) dX10_deal_70 (by decide) ?_
        exact rw_sub (rw_lc rfl (rw_lc rfl (rw_lc rfl rw_lz))) (ih (v2 + 1) q10 h)
set_option maxRecDepth 20000 in
set_option maxHeartbeats 1000000 in
theorem ct_X10_deal {w : WE} {M : Mem} {v1 : Int32} {out : Int32 × Mem} (h : f_X10_deal M v1 = some out) : Ct w 1 yX10_deal cX10_deal 5 (some .int) [.ref (bw_ad w 93), .int v1] M (bw_pi (out.1) out.2) := by
  refine Ct.of (own := RX10) rfl (by decide) (by intro v hv; simp only [List.mem_cons, List.not_mem_nil, or_false] at hv; rcases hv with rfl | rfl <;> first | rfl | exact bw_cat_rf _) (Nat.le_of_ble_eq_true rfl) ?_
  unfold f_X10_deal at h
  show RW w 1 0 0 0 0 cX10_deal RX10 5 (some .int) (bw_Z w (bw_pi (out.1) out.2)) 0 [(0, .ref (bw_ad w 93)), (1, .int v1)] [] M
  refine rw_iload_n dX10_deal_0 rfl rfl ?_
  refine rw_iconst (v := 1) dX10_deal_1 (by decide) ?_
  refine rw_bipush (v := 24) dX10_deal_2 (by decide) ?_
  refine rw_callS3 dX10_deal_4 ln_RX10_117 ms_X10_in (ct_X10_in rfl) (Nat.le_of_ble_eq_true rfl) (Nat.le_of_ble_eq_true rfl) (bw_kkz (fun z1 => ?_))
  refine rw_if_ne (tgt := 13) dX10_deal_7 (by decide) (fun c2 => ?_) (fun c2 => ?_)
  · have h := bw_if c2 h
    refine rw_iconst (v := 0) dX10_deal_13 (by decide) ?_
    refine rw_istore_n dX10_deal_14 rfl (by decide) ?_
    exact rw_sub (rw_lc rfl (rw_lc rfl (rw_lc rfl rw_lz))) (th_X10_deal_L15 bw_fu (0 : Int32) M h)
  · have h := bw_it c2 h
    refine rw_ldc dX10_deal_10 cn_RX10_125 ?_
    have h := Option.some.inj h
    subst h
    exact rw_iret dX10_deal_12 ⟨rfl, rfl⟩
set_option maxRecDepth 20000 in
set_option maxHeartbeats 1000000 in
theorem ct_X10_seed {w : WE} {M : Mem} {v1 : Int32} {out : Int32 × Mem} (h : f_X10_seed M v1 = some out) : Ct w 0 yX10_seed cX10_seed 3 (some .int) [.ref (bw_ad w 93), .int v1] M (bw_pi (out.1) out.2) := by
  refine Ct.of (own := RX10) rfl (by decide) (by intro v hv; simp only [List.mem_cons, List.not_mem_nil, or_false] at hv; rcases hv with rfl | rfl <;> first | rfl | exact bw_cat_rf _) (Nat.le_of_ble_eq_true rfl) ?_
  unfold f_X10_seed at h
  show RW w 0 0 0 0 0 cX10_seed RX10 3 (some .int) (bw_Z w (bw_pi (out.1) out.2)) 0 [(0, .ref (bw_ad w 93)), (1, .int v1)] [] M
  refine rw_aload_n dX10_seed_0 rfl rfl ?_
  refine rw_get dX10_seed_1 fl_RX10_9 (sh_m w) (bw_kl (by decide)) rfl ?_
  refine rw_iconst (v := 0) dX10_seed_4 (by decide) ?_
  refine rw_iald dX10_seed_5 (sh_m_now w) (bw_kl (by decide)) (bw_in (show bw_ib (0 : Int32) 1530 = true by decide)) ?_
  refine rw_istore_n dX10_seed_6 rfl (by decide) ?_
  refine rw_aload_n dX10_seed_7 rfl rfl ?_
  refine rw_get dX10_seed_8 fl_RX10_9 (sh_m w) (bw_kl (by decide)) rfl ?_
  refine rw_iconst (v := 0) dX10_seed_11 (by decide) ?_
  refine rw_iload_n dX10_seed_12 rfl rfl ?_
  refine rw_iast dX10_seed_13 (sh_m_now w) (bw_kl (by decide)) (bw_in (show bw_ib (0 : Int32) 1530 = true by decide)) ?_
  obtain ⟨M1, hM1, h⟩ := bw_mlE h
  refine rw_m hM1.symm ?_
  refine rw_iload_n dX10_seed_14 rfl rfl ?_
  have h := Option.some.inj h
  subst h
  exact rw_iret dX10_seed_15 ⟨rfl, rfl⟩
set_option maxRecDepth 20000 in
set_option maxHeartbeats 1000000 in
theorem th_X10_set_J33 {w : WE} {M : Mem} {v1 : Int32} {v2 : Int32} {s0 : Int32} {s1 : Int32} {s2 : Int32} {out : Int32 × Mem} (h : f_X10_set_J33 M v1 v2 s0 s1 s2 = some out) : RW w 1 0 0 0 0 cX10_set RX10 4 (some .int) (bw_Z w (bw_pi (out.1) out.2)) 33 [(0, .ref (bw_ad w 93)), (1, .int v1), (2, .int v2)] [.int s2, .int s1, .int s0] M := by
  unfold f_X10_set_J33 at h
  refine rw_callS3 dX10_set_33 ln_RX10_117 ms_X10_in (ct_X10_in rfl) (Nat.le_of_ble_eq_true rfl) (Nat.le_of_ble_eq_true rfl) (bw_kkz (fun z5 => ?_))
  refine rw_if_ne (tgt := 42) dX10_set_36 (by decide) (fun c6 => ?_) (fun c6 => ?_)
  · have h := bw_if c6 h
    refine rw_aload_n dX10_set_42 rfl rfl ?_
    refine rw_get dX10_set_43 fl_RX10_9 (sh_m w) (bw_kl (by decide)) rfl ?_
    refine rw_iconst (v := 1) dX10_set_46 (by decide) ?_
    refine rw_iload_n dX10_set_47 rfl rfl ?_
    refine rw_iadd dX10_set_48 ?_
    obtain ⟨g7, h⟩ := bw_gd h
    refine rw_iald dX10_set_49 (sh_m_now w) (bw_kl (by decide)) (bw_in g7) ?_
    obtain ⟨x8, hx8, h⟩ := bw_mlE h
    refine rw_ti hx8 ?_
    refine rw_istore_n dX10_set_50 rfl (by decide) ?_
    refine rw_aload_n dX10_set_51 rfl rfl ?_
    refine rw_get dX10_set_52 fl_RX10_9 (sh_m w) (bw_kl (by decide)) rfl ?_
    refine rw_iconst (v := 1) dX10_set_55 (by decide) ?_
    refine rw_iload_n dX10_set_56 rfl rfl ?_
    refine rw_iadd dX10_set_57 ?_
    refine rw_iload_n dX10_set_58 rfl rfl ?_
    refine rw_iast dX10_set_59 (sh_m_now w) (bw_kl (by decide)) (bw_in g7) ?_
    obtain ⟨M9, hM9, h⟩ := bw_mlE h
    refine rw_m hM9.symm ?_
    refine rw_iload_n dX10_set_60 rfl rfl ?_
    have h := Option.some.inj h
    subst h
    exact rw_iret dX10_set_61 ⟨rfl, rfl⟩
  · have h := bw_it c6 h
    refine rw_ldc dX10_set_39 cn_RX10_125 ?_
    have h := Option.some.inj h
    subst h
    exact rw_iret dX10_set_41 ⟨rfl, rfl⟩
set_option maxRecDepth 20000 in
set_option maxHeartbeats 1000000 in
theorem th_X10_set_J20 {w : WE} {M : Mem} {v1 : Int32} {v2 : Int32} {s0 : Int32} {s1 : Int32} {out : Int32 × Mem} (h : f_X10_set_J20 M v1 v2 s0 s1 = some out) : RW w 1 0 0 0 0 cX10_set RX10 4 (some .int) (bw_Z w (bw_pi (out.1) out.2)) 20 [(0, .ref (bw_ad w 93)), (1, .int v1), (2, .int v2)] [.int s1, .int s0] M := by
  unfold f_X10_set_J20 at h
  refine rw_iload_n dX10_set_20 rfl rfl ?_
  refine rw_iconst (v := 1) dX10_set_21 (by decide) ?_
  have key : RW w 1 0 0 0 0 cX10_set RX10 4 (some .int) (bw_Z w (bw_pi (out.1) out.2)) 33 [(0, .ref (bw_ad w 93)), (1, .int v1), (2, .int v2)] [.int (if v1 = (1 : Int32) then (9 : Int32) else (999 : Int32)), .int s1, .int s0] M := by
    exact rw_sub (rw_lc rfl (rw_lc rfl (rw_lc rfl rw_lz))) (th_X10_set_J33 h)
  refine rw_icmp_ne (tgt := 30) dX10_set_22 (by decide) (fun c4 => ?_) (fun c4 => ?_)
  · refine rw_sipush (v := 999) dX10_set_30 (by decide) ?_
    simp only [if_neg c4] at key
    exact rw_sub (rw_lc rfl (rw_lc rfl (rw_lc rfl rw_lz))) key
  · refine rw_bipush (v := 9) dX10_set_25 (by decide) ?_
    refine rw_goto (tgt := 33) dX10_set_27 (by decide) ?_
    simp only [if_pos c4] at key
    exact rw_sub (rw_lc rfl (rw_lc rfl (rw_lc rfl rw_lz))) key
set_option maxRecDepth 20000 in
set_option maxHeartbeats 1000000 in
theorem ct_X10_set {w : WE} {M : Mem} {v1 : Int32} {v2 : Int32} {out : Int32 × Mem} (h : f_X10_set M v1 v2 = some out) : Ct w 1 yX10_set cX10_set 4 (some .int) [.ref (bw_ad w 93), .int v1, .int v2] M (bw_pi (out.1) out.2) := by
  refine Ct.of (own := RX10) rfl (by decide) (by intro v hv; simp only [List.mem_cons, List.not_mem_nil, or_false] at hv; rcases hv with rfl | rfl | rfl <;> first | rfl | exact bw_cat_rf _) (Nat.le_of_ble_eq_true rfl) ?_
  unfold f_X10_set at h
  show RW w 1 0 0 0 0 cX10_set RX10 4 (some .int) (bw_Z w (bw_pi (out.1) out.2)) 0 [(0, .ref (bw_ad w 93)), (1, .int v1), (2, .int v2)] [] M
  refine rw_iload_n dX10_set_0 rfl rfl ?_
  refine rw_iconst (v := 0) dX10_set_1 (by decide) ?_
  refine rw_iconst (v := 2) dX10_set_2 (by decide) ?_
  refine rw_callS3 dX10_set_3 ln_RX10_117 ms_X10_in (ct_X10_in rfl) (Nat.le_of_ble_eq_true rfl) (Nat.le_of_ble_eq_true rfl) (bw_kkz (fun z1 => ?_))
  refine rw_if_eq (tgt := 39) dX10_set_6 (by decide) (fun c2 => ?_) (fun c2 => ?_)
  · have h := bw_it c2 h
    refine rw_ldc dX10_set_39 cn_RX10_125 ?_
    have h := Option.some.inj h
    subst h
    exact rw_iret dX10_set_41 ⟨rfl, rfl⟩
  · have h := bw_if c2 h
    refine rw_iload_n dX10_set_9 rfl rfl ?_
    refine rw_iload_n dX10_set_10 rfl rfl ?_
    refine rw_iconst (v := 1) dX10_set_11 (by decide) ?_
    have key : RW w 1 0 0 0 0 cX10_set RX10 4 (some .int) (bw_Z w (bw_pi (out.1) out.2)) 20 [(0, .ref (bw_ad w 93)), (1, .int v1), (2, .int v2)] [.int (if v1 = (1 : Int32) then (0 : Int32) else (1 : Int32)), .int v2] M := by
      exact rw_sub (rw_lc rfl (rw_lc rfl (rw_lc rfl rw_lz))) (th_X10_set_J20 h)
    refine rw_icmp_ne (tgt := 19) dX10_set_12 (by decide) (fun c3 => ?_) (fun c3 => ?_)
    · refine rw_iconst (v := 1) dX10_set_19 (by decide) ?_
      simp only [if_neg c3] at key
      exact rw_sub (rw_lc rfl (rw_lc rfl (rw_lc rfl rw_lz))) key
    · refine rw_iconst (v := 0) dX10_set_15 (by decide) ?_
      refine rw_goto (tgt := 20) dX10_set_16 (by decide) ?_
      simp only [if_pos c3] at key
      exact rw_sub (rw_lc rfl (rw_lc rfl (rw_lc rfl rw_lz))) key
set_option maxRecDepth 20000 in
set_option maxHeartbeats 1000000 in
theorem ct_X10_board {w : WE} {M : Mem} {v1 : Int32} {v2 : Int32} {v3 : Int32} {out : Int32 × Mem} (h : f_X10_board M v1 v2 v3 = some out) : Ct w 2 yX10_board cX10_board 5 (some .int) [.ref (bw_ad w 93), .int v1, .int v2, .int v3] M (bw_pi (out.1) out.2) := by
  refine Ct.of (own := RX10) rfl (by decide) (by intro v hv; simp only [List.mem_cons, List.not_mem_nil, or_false] at hv; rcases hv with rfl | rfl | rfl | rfl <;> first | rfl | exact bw_cat_rf _) (Nat.le_of_ble_eq_true rfl) ?_
  unfold f_X10_board at h
  show RW w 2 0 0 0 0 cX10_board RX10 5 (some .int) (bw_Z w (bw_pi (out.1) out.2)) 0 [(0, .ref (bw_ad w 93)), (1, .int v1), (2, .int v2), (3, .int v3)] [] M
  refine rw_iload_n dX10_board_0 rfl rfl ?_
  refine rw_iconst (v := 0) dX10_board_1 (by decide) ?_
  refine rw_iconst (v := 5) dX10_board_2 (by decide) ?_
  refine rw_callS3 dX10_board_3 ln_RX10_117 ms_X10_in (ct_X10_in rfl) (Nat.le_of_ble_eq_true rfl) (Nat.le_of_ble_eq_true rfl) (bw_kkz (fun z1 => ?_))
  refine rw_if_eq (tgt := 56) dX10_board_6 (by decide) (fun c2 => ?_) (fun c2 => ?_)
  · have h := bw_it c2 h
    refine rw_ldc dX10_board_56 cn_RX10_125 ?_
    have h := Option.some.inj h
    subst h
    exact rw_iret dX10_board_58 ⟨rfl, rfl⟩
  · have h := bw_if c2 h
    refine rw_iload_n dX10_board_9 rfl rfl ?_
    refine rw_if_lt (tgt := 56) dX10_board_10 (by decide) (fun c3 => ?_) (fun c3 => ?_)
    · have h := bw_it c3 h
      refine rw_ldc dX10_board_56 cn_RX10_125 ?_
      have h := Option.some.inj h
      subst h
      exact rw_iret dX10_board_58 ⟨rfl, rfl⟩
    · have h := bw_if c3 h
      refine rw_aload_n dX10_board_13 rfl rfl ?_
      refine rw_iload_n dX10_board_14 rfl rfl ?_
      refine rw_bipush (v := 100) dX10_board_15 (by decide) ?_
      refine rw_idiv dX10_board_17 (by decide) ?_
      refine rw_callV1 dX10_board_18 ln_RX10_131 mv_X10_isBook (sh_m w) (bw_kl (by decide)) (ct_X10_isBook rfl) (Nat.le_of_ble_eq_true rfl) (Nat.le_of_ble_eq_true rfl) (bw_kkz (fun z4 => ?_))
      refine rw_if_eq (tgt := 56) dX10_board_21 (by decide) (fun c5 => ?_) (fun c5 => ?_)
      · have h := bw_it c5 h
        refine rw_ldc dX10_board_56 cn_RX10_125 ?_
        have h := Option.some.inj h
        subst h
        exact rw_iret dX10_board_58 ⟨rfl, rfl⟩
      · have h := bw_if c5 h
        refine rw_aload_n dX10_board_24 rfl rfl ?_
        refine rw_iload_n dX10_board_25 rfl rfl ?_
        refine rw_bipush (v := 100) dX10_board_26 (by decide) ?_
        refine rw_irem dX10_board_28 (by decide) ?_
        refine rw_callV1 dX10_board_29 ln_RX10_131 mv_X10_isBook (sh_m w) (bw_kl (by decide)) (ct_X10_isBook rfl) (Nat.le_of_ble_eq_true rfl) (Nat.le_of_ble_eq_true rfl) (bw_kkz (fun z6 => ?_))
        refine rw_if_eq (tgt := 56) dX10_board_32 (by decide) (fun c7 => ?_) (fun c7 => ?_)
        · have h := bw_it c7 h
          refine rw_ldc dX10_board_56 cn_RX10_125 ?_
          have h := Option.some.inj h
          subst h
          exact rw_iret dX10_board_58 ⟨rfl, rfl⟩
        · have h := bw_if c7 h
          refine rw_iload_n dX10_board_35 rfl rfl ?_
          refine rw_bipush (v := 100) dX10_board_36 (by decide) ?_
          refine rw_irem dX10_board_38 (by decide) ?_
          refine rw_iload_n dX10_board_39 rfl rfl ?_
          refine rw_bipush (v := 100) dX10_board_40 (by decide) ?_
          refine rw_idiv dX10_board_42 (by decide) ?_
          refine rw_icmp_lt (tgt := 56) dX10_board_43 (by decide) (fun c8 => ?_) (fun c8 => ?_)
          · have h := bw_it c8 h
            refine rw_ldc dX10_board_56 cn_RX10_125 ?_
            have h := Option.some.inj h
            subst h
            exact rw_iret dX10_board_58 ⟨rfl, rfl⟩
          · have h := bw_if c8 h
            refine rw_iload_n dX10_board_46 rfl rfl ?_
            refine rw_iconst (v := 0) dX10_board_47 (by decide) ?_
            refine rw_bipush (v := 99) dX10_board_48 (by decide) ?_
            refine rw_callS3 dX10_board_50 ln_RX10_117 ms_X10_in (ct_X10_in rfl) (Nat.le_of_ble_eq_true rfl) (Nat.le_of_ble_eq_true rfl) (bw_kkz (fun z9 => ?_))
            refine rw_if_ne (tgt := 59) dX10_board_53 (by decide) (fun c10 => ?_) (fun c10 => ?_)
            · have h := bw_if c10 h
              refine rw_aload_n dX10_board_59 rfl rfl ?_
              refine rw_get dX10_board_60 fl_RX10_9 (sh_m w) (bw_kl (by decide)) rfl ?_
              refine rw_iconst (v := 5) dX10_board_63 (by decide) ?_
              refine rw_iald dX10_board_64 (sh_m_now w) (bw_kl (by decide)) (bw_in (show bw_ib (5 : Int32) 1530 = true by decide)) ?_
              refine rw_bipush (v := 12) dX10_board_65 (by decide) ?_
              refine rw_icmp_ne (tgt := 73) dX10_board_67 (by decide) (fun c11 => ?_) (fun c11 => ?_)
              · have h := bw_if c11 h
                refine rw_bipush (v := 110) dX10_board_73 (by decide) ?_
                refine rw_iconst (v := 4) dX10_board_75 (by decide) ?_
                refine rw_aload_n dX10_board_76 rfl rfl ?_
                refine rw_get dX10_board_77 fl_RX10_9 (sh_m w) (bw_kl (by decide)) rfl ?_
                refine rw_iconst (v := 5) dX10_board_80 (by decide) ?_
                refine rw_iald dX10_board_81 (sh_m_now w) (bw_kl (by decide)) (bw_in (show bw_ib (5 : Int32) 1530 = true by decide)) ?_
                refine rw_imul dX10_board_82 ?_
                refine rw_iadd dX10_board_83 ?_
                obtain ⟨x12, hx12, h⟩ := bw_mlE h
                refine rw_ti hx12 ?_
                refine rw_istore dX10_board_84 (by decide) ?_
                refine rw_aload_n dX10_board_86 rfl rfl ?_
                refine rw_get dX10_board_87 fl_RX10_9 (sh_m w) (bw_kl (by decide)) rfl ?_
                refine rw_iload dX10_board_90 rfl ?_
                refine rw_iload_n dX10_board_92 rfl rfl ?_
                obtain ⟨g13, h⟩ := bw_gd h
                refine rw_iast dX10_board_93 (sh_m_now w) (bw_kl (by decide)) (bw_in g13) ?_
                obtain ⟨M14, hM14, h⟩ := bw_mlE h
                refine rw_m hM14.symm ?_
                refine rw_aload_n dX10_board_94 rfl rfl ?_
                refine rw_get dX10_board_95 fl_RX10_9 (sh_m w) (bw_kl (by decide)) rfl ?_
                refine rw_iload dX10_board_98 rfl ?_
                refine rw_iconst (v := 1) dX10_board_100 (by decide) ?_
                refine rw_iadd dX10_board_101 ?_
                refine rw_iload_n dX10_board_102 rfl rfl ?_
                refine rw_bipush (v := 100) dX10_board_103 (by decide) ?_
                refine rw_idiv dX10_board_105 (by decide) ?_
                obtain ⟨g15, h⟩ := bw_gd h
                refine rw_iast dX10_board_106 (sh_m_now w) (bw_kl (by decide)) (bw_in g15) ?_
                obtain ⟨M16, hM16, h⟩ := bw_mlE h
                refine rw_m hM16.symm ?_
                refine rw_aload_n dX10_board_107 rfl rfl ?_
                refine rw_get dX10_board_108 fl_RX10_9 (sh_m w) (bw_kl (by decide)) rfl ?_
                refine rw_iload dX10_board_111 rfl ?_
                refine rw_iconst (v := 2) dX10_board_113 (by decide) ?_
                refine rw_iadd dX10_board_114 ?_
                refine rw_iload_n dX10_board_115 rfl rfl ?_
                refine rw_bipush (v := 100) dX10_board_116 (by decide) ?_
                refine rw_irem dX10_board_118 (by decide) ?_
                obtain ⟨g17, h⟩ := bw_gd h
                refine rw_iast dX10_board_119 (sh_m_now w) (bw_kl (by decide)) (bw_in g17) ?_
                obtain ⟨M18, hM18, h⟩ := bw_mlE h
                refine rw_m hM18.symm ?_
                refine rw_aload_n dX10_board_120 rfl rfl ?_
                refine rw_get dX10_board_121 fl_RX10_9 (sh_m w) (bw_kl (by decide)) rfl ?_
                refine rw_iload dX10_board_124 rfl ?_
                refine rw_iconst (v := 3) dX10_board_126 (by decide) ?_
                refine rw_iadd dX10_board_127 ?_
                refine rw_iload_n dX10_board_128 rfl rfl ?_
                obtain ⟨g19, h⟩ := bw_gd h
                refine rw_iast dX10_board_129 (sh_m_now w) (bw_kl (by decide)) (bw_in g19) ?_
                obtain ⟨M20, hM20, h⟩ := bw_mlE h
                refine rw_m hM20.symm ?_
                refine rw_aload_n dX10_board_130 rfl rfl ?_
                refine rw_get dX10_board_131 fl_RX10_9 (sh_m w) (bw_kl (by decide)) rfl ?_
                refine rw_iconst (v := 5) dX10_board_134 (by decide) ?_
                refine rw_dup2 dX10_board_135 rfl rfl ?_
                refine rw_iald dX10_board_136 (sh_m_now w) (bw_kl (by decide)) (bw_in (show bw_ib (5 : Int32) 1530 = true by decide)) ?_
                refine rw_iconst (v := 1) dX10_board_137 (by decide) ?_
                refine rw_iadd dX10_board_138 ?_
                refine rw_iast dX10_board_139 (sh_m_now w) (bw_kl (by decide)) (bw_in (show bw_ib (5 : Int32) 1530 = true by decide)) ?_
                obtain ⟨M21, hM21, h⟩ := bw_mlE h
                refine rw_m hM21.symm ?_
                refine rw_aload_n dX10_board_140 rfl rfl ?_
                refine rw_get dX10_board_141 fl_RX10_9 (sh_m w) (bw_kl (by decide)) rfl ?_
                refine rw_iconst (v := 5) dX10_board_144 (by decide) ?_
                refine rw_iald dX10_board_145 (sh_m_now w) (bw_kl (by decide)) (bw_in (show bw_ib (5 : Int32) 1530 = true by decide)) ?_
                refine rw_iconst (v := 1) dX10_board_146 (by decide) ?_
                refine rw_isub dX10_board_147 ?_
                have h := Option.some.inj h
                subst h
                exact rw_iret dX10_board_148 ⟨rfl, rfl⟩
              · have h := bw_it c11 h
                refine rw_ldc dX10_board_70 cn_RX10_126 ?_
                have h := Option.some.inj h
                subst h
                exact rw_iret dX10_board_72 ⟨rfl, rfl⟩
            · have h := bw_it c10 h
              refine rw_ldc dX10_board_56 cn_RX10_125 ?_
              have h := Option.some.inj h
              subst h
              exact rw_iret dX10_board_58 ⟨rfl, rfl⟩
