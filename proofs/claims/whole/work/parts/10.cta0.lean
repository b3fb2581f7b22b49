set_option maxRecDepth 20000 in
set_option maxHeartbeats 1000000 in
theorem ct_X0_become {w : WE} {M : Mem} {b : Nat} {b1 : Nat} (hb : bw_iB b) (hb1 : bw_iB b1) {out : Mem} (h : f_X0_become M b b1 = some out) : Ct w 0 yX0_become cX0_become 2 none [.ref (bw_ad w b), .ref (bw_ad w b1)] M (bw_pv out) := by
  refine Ct.of (own := RX0) rfl (by decide) (by intro v hv; simp only [List.mem_cons, List.not_mem_nil, or_false] at hv; rcases hv with rfl | rfl <;> first | rfl | exact bw_cat_rf _) (Nat.le_of_ble_eq_true rfl) ?_
  unfold f_X0_become at h
  show RW w 0 0 0 0 0 cX0_become RX0 2 none (bw_Z w (bw_pv out)) 0 [(0, .ref (bw_ad w b)), (1, .ref (bw_ad w b1))] [] M
  refine rw_aload_n dX0_become_0 rfl rfl ?_
  refine rw_aload_n dX0_become_1 rfl rfl ?_
  refine rw_get dX0_become_2 fl_RX0_9 (shB hb1) (klB hb1) rfl ?_
  refine rw_puti dX0_become_5 fl_RX0_9 fp_0_0 (shB hb) (klB hb) (by decide) (fun _ => rfl) (fun _ => Nat.le_of_ble_eq_true rfl) ?_
  obtain ⟨M1, hM1, h⟩ := bw_mlE h
  refine rw_m hM1.symm ?_
  refine rw_aload_n dX0_become_8 rfl rfl ?_
  refine rw_aload_n dX0_become_9 rfl rfl ?_
  refine rw_get dX0_become_10 fl_RX0_15 (shB hb1) (klB hb1) rfl ?_
  refine rw_puti dX0_become_13 fl_RX0_15 fp_0_1 (shB hb) (klB hb) (by decide) (fun _ => rfl) (fun _ => Nat.le_of_ble_eq_true rfl) ?_
  obtain ⟨M2, hM2, h⟩ := bw_mlE h
  refine rw_m hM2.symm ?_
  refine rw_aload_n dX0_become_16 rfl rfl ?_
  refine rw_aload_n dX0_become_17 rfl rfl ?_
  refine rw_get dX0_become_18 fl_RX0_18 (shB hb1) (klB hb1) rfl ?_
  refine rw_puti dX0_become_21 fl_RX0_18 fp_0_2 (shB hb) (klB hb) (by decide) (fun _ => rfl) (fun _ => Nat.le_of_ble_eq_true rfl) ?_
  obtain ⟨M3, hM3, h⟩ := bw_mlE h
  refine rw_m hM3.symm ?_
  refine rw_aload_n dX0_become_24 rfl rfl ?_
  refine rw_aload_n dX0_become_25 rfl rfl ?_
  refine rw_get dX0_become_26 fl_RX0_21 (shB hb1) (klB hb1) rfl ?_
  refine rw_puti dX0_become_29 fl_RX0_21 fp_0_3 (shB hb) (klB hb) (by decide) (fun _ => rfl) (fun _ => Nat.le_of_ble_eq_true rfl) ?_
  obtain ⟨M4, hM4, h⟩ := bw_mlE h
  refine rw_m hM4.symm ?_
  have h := Option.some.inj h
  subst h
  exact rw_vret dX0_become_32 ⟨rfl, rfl⟩
set_option maxRecDepth 20000 in
set_option maxHeartbeats 1000000 in
theorem th_X6_tallest_L9 {w : WE} {M : Mem} {S : Nat} {v2 : Int32} (hS : bw_iS S) {out : Int32} : ∀ (n : Nat) (v3 : Int32) (v4 : Int32), f_X6_tallest_L9 M S v2 n v3 v4 = some out → RW w 2 0 0 0 0 cX6_tallest RX6 5 (some .int) (bw_Z w (bw_pi (out) M)) 9 [(0, .ref (bw_ad w S)), (2, .int v2), (3, .int v3), (4, .int v4)] [] M := by
  intro n
  induction n with
  | zero => intro v3 v4 h; cases h
  | succ n ih =>
    intro v3 v4 h
    rw [f_X6_tallest_L9] at h
    refine rw_iload dX6_tallest_9 rfl ?_
    refine rw_iload_n dX6_tallest_11 rfl rfl ?_
    refine rw_icmp_gt (tgt := 42) dX6_tallest_12 (by decide) (fun c1 => ?_) (fun c1 => ?_)
    · have h := bw_it c1 h
      refine rw_iload_n dX6_tallest_42 rfl rfl ?_
      have h := Option.some.inj h
      subst h
      exact rw_iret dX6_tallest_43 ⟨rfl, rfl⟩
    · have h := bw_if c1 h
      refine rw_iload dX6_tallest_15 rfl ?_
      refine rw_aload_n dX6_tallest_17 rfl rfl ?_
      refine rw_get dX6_tallest_18 fl_RX6_54 (shS hS) (klS hS) rfl ?_
      refine rw_icmp_ge (tgt := 42) dX6_tallest_21 (by decide) (fun c2 => ?_) (fun c2 => ?_)
      · have h := bw_it c2 h
        refine rw_iload_n dX6_tallest_42 rfl rfl ?_
        have h := Option.some.inj h
        subst h
        exact rw_iret dX6_tallest_43 ⟨rfl, rfl⟩
      · have h := bw_if c2 h
        refine rw_iload_n dX6_tallest_24 rfl rfl ?_
        refine rw_aload_n dX6_tallest_25 rfl rfl ?_
        refine rw_get dX6_tallest_26 fl_RX6_9 (shS hS) (klS hS) rfl ?_
        refine rw_iload dX6_tallest_29 rfl ?_
        obtain ⟨g3, h⟩ := bw_gd h
        refine rw_iald dX6_tallest_31 (shS1 hS) (klS1 hS) (bw_in g3) ?_
        refine rw_mmax dX6_tallest_32 ln_RX6_82 mm_max_s mm_i mm_max_c (Nat.le_of_ble_eq_true rfl) (Nat.le_of_ble_eq_true rfl) ?_
        obtain ⟨x4, hx4, h⟩ := bw_mlE h
        refine rw_ti hx4 ?_
        refine rw_istore_n dX6_tallest_35 rfl (by decide) ?_
        refine rw_inc dX6_tallest_36 rfl (by decide) ?_
        refine rw_goto (tgt := 9) dX6_tallest_39 (by decide) ?_
        exact rw_sub (rw_lc rfl (rw_lc rfl (rw_lc rfl (rw_lc rfl rw_lz)))) (ih x4 (v4 + 1) h)
set_option maxRecDepth 20000 in
set_option maxHeartbeats 1000000 in
theorem ct_X6_tallest {w : WE} {M : Mem} {S : Nat} {v1 : Int32} {v2 : Int32} (hS : bw_iS S) {out : Int32} (h : f_X6_tallest M S v1 v2 = some out) : Ct w 2 yX6_tallest cX6_tallest 5 (some .int) [.ref (bw_ad w S), .int v1, .int v2] M (bw_pi (out) M) := by
  refine Ct.of (own := RX6) rfl (by decide) (by intro v hv; simp only [List.mem_cons, List.not_mem_nil, or_false] at hv; rcases hv with rfl | rfl | rfl <;> first | rfl | exact bw_cat_rf _) (Nat.le_of_ble_eq_true rfl) ?_
  unfold f_X6_tallest at h
  show RW w 2 0 0 0 0 cX6_tallest RX6 5 (some .int) (bw_Z w (bw_pi (out) M)) 0 [(0, .ref (bw_ad w S)), (1, .int v1), (2, .int v2)] [] M
  refine rw_iconst (v := 0) dX6_tallest_0 (by decide) ?_
  refine rw_istore_n dX6_tallest_1 rfl (by decide) ?_
  refine rw_iload_n dX6_tallest_2 rfl rfl ?_
  refine rw_iconst (v := 0) dX6_tallest_3 (by decide) ?_
  refine rw_mmax dX6_tallest_4 ln_RX6_82 mm_max_s mm_i mm_max_c (Nat.le_of_ble_eq_true rfl) (Nat.le_of_ble_eq_true rfl) ?_
  refine rw_istore dX6_tallest_7 (by decide) ?_
  exact rw_sub (rw_lc rfl (rw_lc rfl (rw_lc rfl (rw_lc rfl rw_lz)))) (th_X6_tallest_L9 hS bw_fu (0 : Int32) (bw_max v1 (0 : Int32)) h)
set_option maxRecDepth 20000 in
set_option maxHeartbeats 1000000 in
theorem th_X6_thickness_L9 {w : WE} {M : Mem} {S : Nat} {v2 : Int32} (hS : bw_iS S) {out : Int32} : ∀ (n : Nat) (v3 : Int32) (v4 : Int32), f_X6_thickness_L9 M S v2 n v3 v4 = some out → RW w 2 0 0 0 0 cX6_thickness RX6 5 (some .int) (bw_Z w (bw_pi (out) M)) 9 [(0, .ref (bw_ad w S)), (2, .int v2), (3, .int v3), (4, .int v4)] [] M := by
  intro n
  induction n with
  | zero => intro v3 v4 h; cases h
  | succ n ih =>
    intro v3 v4 h
    rw [f_X6_thickness_L9] at h
    refine rw_iload dX6_thickness_9 rfl ?_
    refine rw_iload_n dX6_thickness_11 rfl rfl ?_
    refine rw_icmp_gt (tgt := 40) dX6_thickness_12 (by decide) (fun c1 => ?_) (fun c1 => ?_)
    · have h := bw_it c1 h
      refine rw_iload_n dX6_thickness_40 rfl rfl ?_
      have h := Option.some.inj h
      subst h
      exact rw_iret dX6_thickness_41 ⟨rfl, rfl⟩
    · have h := bw_if c1 h
      refine rw_iload dX6_thickness_15 rfl ?_
      refine rw_aload_n dX6_thickness_17 rfl rfl ?_
      refine rw_get dX6_thickness_18 fl_RX6_54 (shS hS) (klS hS) rfl ?_
      refine rw_icmp_ge (tgt := 40) dX6_thickness_21 (by decide) (fun c2 => ?_) (fun c2 => ?_)
      · have h := bw_it c2 h
        refine rw_iload_n dX6_thickness_40 rfl rfl ?_
        have h := Option.some.inj h
        subst h
        exact rw_iret dX6_thickness_41 ⟨rfl, rfl⟩
      · have h := bw_if c2 h
        refine rw_iload_n dX6_thickness_24 rfl rfl ?_
        refine rw_aload_n dX6_thickness_25 rfl rfl ?_
        refine rw_get dX6_thickness_26 fl_RX6_15 (shS hS) (klS hS) rfl ?_
        refine rw_iload dX6_thickness_29 rfl ?_
        obtain ⟨g3, h⟩ := bw_gd h
        refine rw_iald dX6_thickness_31 (shS2 hS) (klS2 hS) (bw_in g3) ?_
        refine rw_iadd dX6_thickness_32 ?_
        obtain ⟨x4, hx4, h⟩ := bw_mlE h
        refine rw_ti hx4 ?_
        refine rw_istore_n dX6_thickness_33 rfl (by decide) ?_
        refine rw_inc dX6_thickness_34 rfl (by decide) ?_
        refine rw_goto (tgt := 9) dX6_thickness_37 (by decide) ?_
        exact rw_sub (rw_lc rfl (rw_lc rfl (rw_lc rfl (rw_lc rfl rw_lz)))) (ih x4 (v4 + 1) h)
set_option maxRecDepth 20000 in
set_option maxHeartbeats 1000000 in
theorem ct_X6_thickness {w : WE} {M : Mem} {S : Nat} {v1 : Int32} {v2 : Int32} (hS : bw_iS S) {out : Int32} (h : f_X6_thickness M S v1 v2 = some out) : Ct w 2 yX6_thickness cX6_thickness 5 (some .int) [.ref (bw_ad w S), .int v1, .int v2] M (bw_pi (out) M) := by
  refine Ct.of (own := RX6) rfl (by decide) (by intro v hv; simp only [List.mem_cons, List.not_mem_nil, or_false] at hv; rcases hv with rfl | rfl | rfl <;> first | rfl | exact bw_cat_rf _) (Nat.le_of_ble_eq_true rfl) ?_
  unfold f_X6_thickness at h
  show RW w 2 0 0 0 0 cX6_thickness RX6 5 (some .int) (bw_Z w (bw_pi (out) M)) 0 [(0, .ref (bw_ad w S)), (1, .int v1), (2, .int v2)] [] M
  refine rw_iconst (v := 0) dX6_thickness_0 (by decide) ?_
  refine rw_istore_n dX6_thickness_1 rfl (by decide) ?_
  refine rw_iload_n dX6_thickness_2 rfl rfl ?_
  refine rw_iconst (v := 0) dX6_thickness_3 (by decide) ?_
  refine rw_mmax dX6_thickness_4 ln_RX6_82 mm_max_s mm_i mm_max_c (Nat.le_of_ble_eq_true rfl) (Nat.le_of_ble_eq_true rfl) ?_
  refine rw_istore dX6_thickness_7 (by decide) ?_
  exact rw_sub (rw_lc rfl (rw_lc rfl (rw_lc rfl (rw_lc rfl rw_lz)))) (th_X6_thickness_L9 hS bw_fu (0 : Int32) (bw_max v1 (0 : Int32)) h)
set_option maxRecDepth 20000 in
set_option maxHeartbeats 1000000 in
theorem ct_X0_wants {w : WE} {M : Mem} {b : Nat} {S1 : Nat} (hb : bw_iB b) (hS1 : bw_iS S1) {out : Int32} (h : f_X0_wants M b S1 = some out) : Ct w 3 yX0_wants cX0_wants 2 (some .int) [.ref (bw_ad w b), .ref (bw_ad w S1)] M (bw_pi (out) M) := by
  refine Ct.of (own := RX0) rfl (by decide) (by intro v hv; simp only [List.mem_cons, List.not_mem_nil, or_false] at hv; rcases hv with rfl | rfl <;> first | rfl | exact bw_cat_rf _) (Nat.le_of_ble_eq_true rfl) ?_
  unfold f_X0_wants at h
  show RW w 3 0 0 0 0 cX0_wants RX0 2 (some .int) (bw_Z w (bw_pi (out) M)) 0 [(0, .ref (bw_ad w b)), (1, .ref (bw_ad w S1))] [] M
  refine rw_aload_n dX0_wants_0 rfl rfl ?_
  refine rw_get dX0_wants_1 fl_RX0_9 (shB hb) (klB hb) rfl ?_
  refine rw_case (1 : Int32) (fun c1 => ?_) (fun c1 => ?_)
  · have h := bw_it c1 h
    refine rw_tabK (tgt := 40) dX0_wants_4 c1 (by decide) (by decide) rfl (by decide) ?_
    refine rw_aload_n dX0_wants_40 rfl rfl ?_
    refine rw_aload_n dX0_wants_41 rfl rfl ?_
    refine rw_get dX0_wants_42 fl_RX0_15 (shB hb) (klB hb) rfl ?_
    refine rw_aload_n dX0_wants_45 rfl rfl ?_
    refine rw_get dX0_wants_46 fl_RX0_18 (shB hb) (klB hb) rfl ?_
    obtain ⟨q2, hq2, h⟩ := bw_bd h
    refine rw_callV2 dX0_wants_49 ln_RX0_24 mv_X6_tallest (shS hS1) (klS hS1) (ct_X6_tallest hS1 hq2) (Nat.le_of_ble_eq_true rfl) (Nat.le_of_ble_eq_true rfl) (bw_kki ?_)
    refine rw_iconst (v := 1) dX0_wants_52 (by decide) ?_
    refine rw_iadd dX0_wants_53 ?_
    have h := Option.some.inj h
    subst h
    exact rw_iret dX0_wants_54 ⟨rfl, rfl⟩
  · have h := bw_if c1 h
    refine rw_case (2 : Int32) (fun c3 => ?_) (fun c3 => ?_)
    · have h := bw_it c3 h
      refine rw_tabK (tgt := 55) dX0_wants_4 c3 (by decide) (by decide) rfl (by decide) ?_
      refine rw_aload_n dX0_wants_55 rfl rfl ?_
      refine rw_aload_n dX0_wants_56 rfl rfl ?_
      refine rw_get dX0_wants_57 fl_RX0_15 (shB hb) (klB hb) rfl ?_
      refine rw_aload_n dX0_wants_60 rfl rfl ?_
      refine rw_get dX0_wants_61 fl_RX0_18 (shB hb) (klB hb) rfl ?_
      obtain ⟨q4, hq4, h⟩ := bw_bd h
      refine rw_callV2 dX0_wants_64 ln_RX0_24 mv_X6_tallest (shS hS1) (klS hS1) (ct_X6_tallest hS1 hq4) (Nat.le_of_ble_eq_true rfl) (Nat.le_of_ble_eq_true rfl) (bw_kki ?_)
      refine rw_iconst (v := 2) dX0_wants_67 (by decide) ?_
      refine rw_iadd dX0_wants_68 ?_
      have h := Option.some.inj h
      subst h
      exact rw_iret dX0_wants_69 ⟨rfl, rfl⟩
    · have h := bw_if c3 h
      refine rw_case (3 : Int32) (fun c5 => ?_) (fun c5 => ?_)
      · have h := bw_it c5 h
        refine rw_tabK (tgt := 40) dX0_wants_4 c5 (by decide) (by decide) rfl (by decide) ?_
        refine rw_aload_n dX0_wants_40 rfl rfl ?_
        refine rw_aload_n dX0_wants_41 rfl rfl ?_
        refine rw_get dX0_wants_42 fl_RX0_15 (shB hb) (klB hb) rfl ?_
        refine rw_aload_n dX0_wants_45 rfl rfl ?_
        refine rw_get dX0_wants_46 fl_RX0_18 (shB hb) (klB hb) rfl ?_
        obtain ⟨q6, hq6, h⟩ := bw_bd h
        refine rw_callV2 dX0_wants_49 ln_RX0_24 mv_X6_tallest (shS hS1) (klS hS1) (ct_X6_tallest hS1 hq6) (Nat.le_of_ble_eq_true rfl) (Nat.le_of_ble_eq_true rfl) (bw_kki ?_)
        refine rw_iconst (v := 1) dX0_wants_52 (by decide) ?_
        refine rw_iadd dX0_wants_53 ?_
        have h := Option.some.inj h
        subst h
        exact rw_iret dX0_wants_54 ⟨rfl, rfl⟩
      · have h := bw_if c5 h
        refine rw_case (4 : Int32) (fun c7 => ?_) (fun c7 => ?_)
        · have h := bw_it c7 h
          refine rw_tabK (tgt := 70) dX0_wants_4 c7 (by decide) (by decide) rfl (by decide) ?_
          refine rw_aload_n dX0_wants_70 rfl rfl ?_
          refine rw_aload_n dX0_wants_71 rfl rfl ?_
          refine rw_get dX0_wants_72 fl_RX0_15 (shB hb) (klB hb) rfl ?_
          refine rw_aload_n dX0_wants_75 rfl rfl ?_
          refine rw_get dX0_wants_76 fl_RX0_18 (shB hb) (klB hb) rfl ?_
          obtain ⟨q8, hq8, h⟩ := bw_bd h
          refine rw_callV2 dX0_wants_79 ln_RX0_30 mv_X6_thickness (shS hS1) (klS hS1) (ct_X6_thickness hS1 hq8) (Nat.le_of_ble_eq_true rfl) (Nat.le_of_ble_eq_true rfl) (bw_kki ?_)
          have h := Option.some.inj h
          subst h
          exact rw_iret dX0_wants_82 ⟨rfl, rfl⟩
        · have h := bw_if c7 h
          refine rw_case (5 : Int32) (fun c9 => ?_) (fun c9 => ?_)
          · have h := bw_it c9 h
            refine rw_tabK (tgt := 83) dX0_wants_4 c9 (by decide) (by decide) rfl (by decide) ?_
            refine rw_aload_n dX0_wants_83 rfl rfl ?_
            refine rw_get dX0_wants_84 fl_RX0_21 (shB hb) (klB hb) rfl ?_
            have h := Option.some.inj h
            subst h
            exact rw_iret dX0_wants_87 ⟨rfl, rfl⟩
          · have h := bw_if c9 h
            refine rw_tabD (tgt := 88) dX0_wants_4 (by have := lv_neT (a := 1) c1 (by decide); have := lv_neT (a := 2) c3 (by decide); have := lv_neT (a := 3) c5 (by decide); have := lv_neT (a := 4) c7 (by decide); have := lv_neT (a := 5) c9 (by decide); omega) (by decide) ?_
            refine rw_aload_n dX0_wants_88 rfl rfl ?_
            refine rw_aload_n dX0_wants_89 rfl rfl ?_
            refine rw_get dX0_wants_90 fl_RX0_15 (shB hb) (klB hb) rfl ?_
            refine rw_aload_n dX0_wants_93 rfl rfl ?_
            refine rw_get dX0_wants_94 fl_RX0_18 (shB hb) (klB hb) rfl ?_
            obtain ⟨q10, hq10, h⟩ := bw_bd h
            refine rw_callV2 dX0_wants_97 ln_RX0_24 mv_X6_tallest (shS hS1) (klS hS1) (ct_X6_tallest hS1 hq10) (Nat.le_of_ble_eq_true rfl) (Nat.le_of_ble_eq_true rfl) (bw_kki ?_)
            have h := Option.some.inj h
            subst h
            exact rw_iret dX0_wants_100 ⟨rfl, rfl⟩
set_option maxRecDepth 20000 in
set_option maxHeartbeats 1000000 in
theorem ct_X0_takes {w : WE} {M : Mem} {b : Nat} {S1 : Nat} (hb : bw_iB b) (hS1 : bw_iS S1) {out : Int32} (h : f_X0_takes M b S1 = some out) : Ct w 3 yX0_takes cX0_takes 2 (some .int) [.ref (bw_ad w b), .ref (bw_ad w S1)] M (bw_pi (out) M) := by
  refine Ct.of (own := RX0) rfl (by decide) (by intro v hv; simp only [List.mem_cons, List.not_mem_nil, or_false] at hv; rcases hv with rfl | rfl <;> first | rfl | exact bw_cat_rf _) (Nat.le_of_ble_eq_true rfl) ?_
  unfold f_X0_takes at h
  show RW w 3 0 0 0 0 cX0_takes RX0 2 (some .int) (bw_Z w (bw_pi (out) M)) 0 [(0, .ref (bw_ad w b)), (1, .ref (bw_ad w S1))] [] M
  refine rw_aload_n dX0_takes_0 rfl rfl ?_
  refine rw_get dX0_takes_1 fl_RX0_9 (shB hb) (klB hb) rfl ?_
  refine rw_case (3 : Int32) (fun c1 => ?_) (fun c1 => ?_)
  · have h := bw_it c1 h
    refine rw_lookup (off := 28) (tgt := 32) dX0_takes_4 (by decide) (by first | (rw [c1]; done) | (rw [c1]; rfl)) (by decide) ?_
    refine rw_aload_n dX0_takes_32 rfl rfl ?_
    refine rw_aload_n dX0_takes_33 rfl rfl ?_
    refine rw_get dX0_takes_34 fl_RX0_15 (shB hb) (klB hb) rfl ?_
    refine rw_aload_n dX0_takes_37 rfl rfl ?_
    refine rw_get dX0_takes_38 fl_RX0_18 (shB hb) (klB hb) rfl ?_
    obtain ⟨q2, hq2, h⟩ := bw_bd h
    refine rw_callV2 dX0_takes_41 ln_RX0_30 mv_X6_thickness (shS hS1) (klS hS1) (ct_X6_thickness hS1 hq2) (Nat.le_of_ble_eq_true rfl) (Nat.le_of_ble_eq_true rfl) (bw_kki ?_)
    refine rw_iconst (v := 1) dX0_takes_44 (by decide) ?_
    refine rw_iadd dX0_takes_45 ?_
    refine rw_iconst (v := 2) dX0_takes_46 (by decide) ?_
    refine rw_idiv dX0_takes_47 (by decide) ?_
    have h := Option.some.inj h
    subst h
    exact rw_iret dX0_takes_48 ⟨rfl, rfl⟩
  · have h := bw_if c1 h
    refine rw_case (4 : Int32) (fun c3 => ?_) (fun c3 => ?_)
    · have h := bw_it c3 h
      refine rw_lookup (off := 45) (tgt := 49) dX0_takes_4 (by decide) (by first | (rw [c3]; done) | (rw [c3]; rfl)) (by decide) ?_
      refine rw_aload_n dX0_takes_49 rfl rfl ?_
      refine rw_aload_n dX0_takes_50 rfl rfl ?_
      refine rw_get dX0_takes_51 fl_RX0_15 (shB hb) (klB hb) rfl ?_
      refine rw_aload_n dX0_takes_54 rfl rfl ?_
      refine rw_get dX0_takes_55 fl_RX0_18 (shB hb) (klB hb) rfl ?_
      obtain ⟨q4, hq4, h⟩ := bw_bd h
      refine rw_callV2 dX0_takes_58 ln_RX0_24 mv_X6_tallest (shS hS1) (klS hS1) (ct_X6_tallest hS1 hq4) (Nat.le_of_ble_eq_true rfl) (Nat.le_of_ble_eq_true rfl) (bw_kki ?_)
      have h := Option.some.inj h
      subst h
      exact rw_iret dX0_takes_61 ⟨rfl, rfl⟩
    · have h := bw_if c3 h
      refine rw_lookup (off := 58) (tgt := 62) dX0_takes_4 (by decide) (by first | (rw [lv_osw (a := 3) c1 (by decide), lv_osw (a := 4) c3 (by decide)]; done) | (rw [lv_osw (a := 3) c1 (by decide), lv_osw (a := 4) c3 (by decide)]; rfl)) (by decide) ?_
      refine rw_aload_n dX0_takes_62 rfl rfl ?_
      refine rw_aload_n dX0_takes_63 rfl rfl ?_
      refine rw_get dX0_takes_64 fl_RX0_15 (shB hb) (klB hb) rfl ?_
      refine rw_aload_n dX0_takes_67 rfl rfl ?_
      refine rw_get dX0_takes_68 fl_RX0_18 (shB hb) (klB hb) rfl ?_
      obtain ⟨q5, hq5, h⟩ := bw_bd h
      refine rw_callV2 dX0_takes_71 ln_RX0_30 mv_X6_thickness (shS hS1) (klS hS1) (ct_X6_thickness hS1 hq5) (Nat.le_of_ble_eq_true rfl) (Nat.le_of_ble_eq_true rfl) (bw_kki ?_)
      have h := Option.some.inj h
      subst h
      exact rw_iret dX0_takes_74 ⟨rfl, rfl⟩
set_option maxRecDepth 20000 in
set_option maxHeartbeats 1000000 in
theorem ct_X0_worth {w : WE} {M : Mem} {b : Nat} (hb : bw_iB b) {out : Int32} (h : f_X0_worth M b = out) : Ct w 0 yX0_worth cX0_worth 2 (some .int) [.ref (bw_ad w b)] M (bw_pi (out) M) := by
  refine Ct.of (own := RX0) rfl (by decide) (by intro v hv; rw [List.mem_singleton.mp hv]; first | rfl | exact bw_cat_rf _) (Nat.le_of_ble_eq_true rfl) ?_
  unfold f_X0_worth at h
  show RW w 0 0 0 0 0 cX0_worth RX0 2 (some .int) (bw_Z w (bw_pi (out) M)) 0 [(0, .ref (bw_ad w b))] [] M
  refine rw_aload_n dX0_worth_0 rfl rfl ?_
  refine rw_get dX0_worth_1 fl_RX0_18 (shB hb) (klB hb) rfl ?_
  refine rw_aload_n dX0_worth_4 rfl rfl ?_
  refine rw_get dX0_worth_5 fl_RX0_15 (shB hb) (klB hb) rfl ?_
  refine rw_isub dX0_worth_8 ?_
  refine rw_iconst (v := 1) dX0_worth_9 (by decide) ?_
  refine rw_iadd dX0_worth_10 ?_
  obtain ⟨x1, hx1, h⟩ := bw_mlE h
  refine rw_ti hx1 ?_
  refine rw_istore_n dX0_worth_11 rfl (by decide) ?_
  refine rw_aload_n dX0_worth_12 rfl rfl ?_
  refine rw_get dX0_worth_13 fl_RX0_9 (shB hb) (klB hb) rfl ?_
  refine rw_case (1 : Int32) (fun c2 => ?_) (fun c2 => ?_)
  · have h := bw_it c2 h
    refine rw_tabK (tgt := 52) dX0_worth_16 c2 (by decide) (by decide) rfl (by decide) ?_
    refine rw_iload_n dX0_worth_52 rfl rfl ?_
    refine rw_aload_n dX0_worth_53 rfl rfl ?_
    refine rw_get dX0_worth_54 fl_RX0_21 (shB hb) (klB hb) rfl ?_
    refine rw_iadd dX0_worth_57 ?_
    subst h
    exact rw_iret dX0_worth_58 ⟨rfl, rfl⟩
  · have h := bw_if c2 h
    refine rw_case (2 : Int32) (fun c3 => ?_) (fun c3 => ?_)
    · have h := bw_it c3 h
      refine rw_tabK (tgt := 79) dX0_worth_16 c3 (by decide) (by decide) rfl (by decide) ?_
      refine rw_iload_n dX0_worth_79 rfl rfl ?_
      subst h
      exact rw_iret dX0_worth_80 ⟨rfl, rfl⟩
    · have h := bw_if c3 h
      refine rw_case (3 : Int32) (fun c4 => ?_) (fun c4 => ?_)
      · have h := bw_it c4 h
        refine rw_tabK (tgt := 59) dX0_worth_16 c4 (by decide) (by decide) rfl (by decide) ?_
        refine rw_iload_n dX0_worth_59 rfl rfl ?_
        refine rw_aload_n dX0_worth_60 rfl rfl ?_
        refine rw_get dX0_worth_61 fl_RX0_21 (shB hb) (klB hb) rfl ?_
        refine rw_iadd dX0_worth_64 ?_
        refine rw_iconst (v := 3) dX0_worth_65 (by decide) ?_
        refine rw_iadd dX0_worth_66 ?_
        subst h
        exact rw_iret dX0_worth_67 ⟨rfl, rfl⟩
      · have h := bw_if c4 h
        refine rw_case (4 : Int32) (fun c5 => ?_) (fun c5 => ?_)
        · have h := bw_it c5 h
          refine rw_tabK (tgt := 68) dX0_worth_16 c5 (by decide) (by decide) rfl (by decide) ?_
          refine rw_iconst (v := 2) dX0_worth_68 (by decide) ?_
          refine rw_iload_n dX0_worth_69 rfl rfl ?_
          refine rw_imul dX0_worth_70 ?_
          subst h
          exact rw_iret dX0_worth_71 ⟨rfl, rfl⟩
        · have h := bw_if c5 h
          refine rw_case (5 : Int32) (fun c6 => ?_) (fun c6 => ?_)
          · have h := bw_it c6 h
            refine rw_tabK (tgt := 72) dX0_worth_16 c6 (by decide) (by decide) rfl (by decide) ?_
            refine rw_aload_n dX0_worth_72 rfl rfl ?_
            refine rw_get dX0_worth_73 fl_RX0_21 (shB hb) (klB hb) rfl ?_
            refine rw_iconst (v := 1) dX0_worth_76 (by decide) ?_
            refine rw_isub dX0_worth_77 ?_
            subst h
            exact rw_iret dX0_worth_78 ⟨rfl, rfl⟩
          · have h := bw_if c6 h
            refine rw_tabD (tgt := 79) dX0_worth_16 (by have := lv_neT (a := 1) c2 (by decide); have := lv_neT (a := 2) c3 (by decide); have := lv_neT (a := 3) c4 (by decide); have := lv_neT (a := 4) c5 (by decide); have := lv_neT (a := 5) c6 (by decide); omega) (by decide) ?_
            refine rw_iload_n dX0_worth_79 rfl rfl ?_
            subst h
            exact rw_iret dX0_worth_80 ⟨rfl, rfl⟩
set_option maxRecDepth 20000 in
set_option maxHeartbeats 1000000 in
theorem ct_X9_isWithin {w : WE} {M : Mem} {v0 : Int32} {v1 : Int32} {v2 : Int32} {out : Int32} (h : f_X9_isWithin v0 v1 v2 = out) : Ct w 0 yX9_isWithin cX9_isWithin 3 (some .boolean) [.int v0, .int v1, .int v2] M (bw_pz (out) M) := by
  refine Ct.of (own := RX9) rfl (by decide) (by intro v hv; simp only [List.mem_cons, List.not_mem_nil, or_false] at hv; rcases hv with rfl | rfl | rfl <;> first | rfl | exact bw_cat_rf _) (Nat.le_of_ble_eq_true rfl) ?_
  unfold f_X9_isWithin at h
  show RW w 0 0 0 0 0 cX9_isWithin RX9 3 (some .boolean) (bw_Z w (bw_pz (out) M)) 0 [(0, .int v0), (1, .int v1), (2, .int v2)] [] M
  refine rw_iload_n dX9_isWithin_0 rfl rfl ?_
  refine rw_iload_n dX9_isWithin_1 rfl rfl ?_
  have key : RW w 0 0 0 0 0 cX9_isWithin RX9 3 (some .boolean) (bw_Z w (bw_pz (out) M)) 15 [] [.int (if v0 < v1 then (0 : Int32) else (if v2 < v0 then (0 : Int32) else (1 : Int32)))] M := by
    subst h
    exact rw_zret dX9_isWithin_15 (by (repeat' split) <;> first | exact bw_n0 | exact bw_n1) ⟨rfl, rfl, (by (repeat' split) <;> first | exact bw_n0 | exact bw_n1)⟩
  refine rw_icmp_lt (tgt := 14) dX9_isWithin_2 (by decide) (fun c1 => ?_) (fun c1 => ?_)
  · refine rw_iconst (v := 0) dX9_isWithin_14 (by decide) ?_
    simp only [if_pos c1] at key
    exact rw_sub rw_lz key
  · refine rw_iload_n dX9_isWithin_5 rfl rfl ?_
    refine rw_iload_n dX9_isWithin_6 rfl rfl ?_
    refine rw_icmp_gt (tgt := 14) dX9_isWithin_7 (by decide) (fun c2 => ?_) (fun c2 => ?_)
    · refine rw_iconst (v := 0) dX9_isWithin_14 (by decide) ?_
      simp only [if_neg c1, if_pos c2] at key
      exact rw_sub rw_lz key
    · refine rw_iconst (v := 1) dX9_isWithin_10 (by decide) ?_
      refine rw_goto (tgt := 15) dX9_isWithin_11 (by decide) ?_
      simp only [if_neg c1, if_neg c2] at key
      exact rw_sub rw_lz key
set_option maxRecDepth 20000 in
set_option maxHeartbeats 1000000 in
theorem ct_X6_hasBook {w : WE} {M : Mem} {S : Nat} {v1 : Int32} (hS : bw_iS S) {out : Int32} (h : f_X6_hasBook M S v1 = out) : Ct w 1 yX6_hasBook cX6_hasBook 2 (some .boolean) [.ref (bw_ad w S), .int v1] M (bw_pz (out) M) := by
  refine Ct.of (own := RX6) rfl (by decide) (by intro v hv; simp only [List.mem_cons, List.not_mem_nil, or_false] at hv; rcases hv with rfl | rfl <;> first | rfl | exact bw_cat_rf _) (Nat.le_of_ble_eq_true rfl) ?_
  unfold f_X6_hasBook at h
  show RW w 1 0 0 0 0 cX6_hasBook RX6 2 (some .boolean) (bw_Z w (bw_pz (out) M)) 0 [(0, .ref (bw_ad w S)), (1, .int v1)] [] M
  refine rw_iload_n dX6_hasBook_0 rfl rfl ?_
  refine rw_iconst (v := 0) dX6_hasBook_1 (by decide) ?_
  refine rw_aload_n dX6_hasBook_2 rfl rfl ?_
  refine rw_get dX6_hasBook_3 fl_RX6_54 (shS hS) (klS hS) rfl ?_
  refine rw_iconst (v := 1) dX6_hasBook_6 (by decide) ?_
  refine rw_isub dX6_hasBook_7 ?_
  refine rw_callN3 dX6_hasBook_8 nx_RX6_76 ms_X9_isWithin (ct_X9_isWithin rfl) (Nat.le_of_ble_eq_true rfl) (Nat.le_of_ble_eq_true rfl) (bw_kkz (fun z1 => ?_))
  subst h
  exact rw_zret dX6_hasBook_11 z1 ⟨rfl, rfl, z1⟩
set_option maxRecDepth 20000 in
set_option maxHeartbeats 1000000 in
theorem th_X0_isGood_J63 {w : WE} {M : Mem} {b : Nat} {S1 : Nat} {v2 : Int32} {s0 : Int32} (hb : bw_iB b) (hS1 : bw_iS S1) {out : Int32} (h : f_X0_isGood_J63 M b S1 v2 s0 = some out) : RW w 4 0 0 0 0 cX0_isGood RX0 4 (some .boolean) (bw_Z w (bw_pz (out) M)) 63 [(0, .ref (bw_ad w b)), (1, .ref (bw_ad w S1)), (2, .int v2)] [.int s0] M := by
  unfold f_X0_isGood_J63 at h
  refine rw_istore_n dX0_isGood_63 rfl (by decide) ?_
  refine rw_aload_n dX0_isGood_64 rfl rfl ?_
  refine rw_aload_n dX0_isGood_65 rfl rfl ?_
  obtain ⟨q5, hq5, h⟩ := bw_bd h
  refine rw_callV1 dX0_isGood_66 ln_RX0_41 mv_X0_takes (shB hb) (klB hb) (ct_X0_takes hb hS1 hq5) (Nat.le_of_ble_eq_true rfl) (Nat.le_of_ble_eq_true rfl) (bw_kki ?_)
  refine rw_aload_n dX0_isGood_69 rfl rfl ?_
  refine rw_get dX0_isGood_70 fl_RX0_45 (shS hS1) (klS hS1) rfl ?_
  have key : RW w 4 0 0 0 0 cX0_isGood RX0 4 (some .boolean) (bw_Z w (bw_pz (out) M)) 89 [] [.int (if (M S1 5) < q5 then (0 : Int32) else (if v2 = 0 then (if s0 = 0 then (1 : Int32) else (0 : Int32)) else (0 : Int32)))] M := by
    have h := Option.some.inj h
    subst h
    exact rw_zret dX0_isGood_89 (by (repeat' split) <;> first | exact bw_n0 | exact bw_n1) ⟨rfl, rfl, (by (repeat' split) <;> first | exact bw_n0 | exact bw_n1)⟩
  refine rw_icmp_gt (tgt := 88) dX0_isGood_73 (by decide) (fun c6 => ?_) (fun c6 => ?_)
  · refine rw_iconst (v := 0) dX0_isGood_88 (by decide) ?_
    simp only [if_pos c6] at key
    exact rw_sub rw_lz key
  · refine rw_iload_n dX0_isGood_76 rfl rfl ?_
    refine rw_if_ne (tgt := 88) dX0_isGood_77 (by decide) (fun c7 => ?_) (fun c7 => ?_)
    · refine rw_iconst (v := 0) dX0_isGood_88 (by decide) ?_
      simp only [if_neg c6, if_neg c7] at key
      exact rw_sub rw_lz key
    · refine rw_iload_n dX0_isGood_80 rfl rfl ?_
      refine rw_if_ne (tgt := 88) dX0_isGood_81 (by decide) (fun c8 => ?_) (fun c8 => ?_)
      · refine rw_iconst (v := 0) dX0_isGood_88 (by decide) ?_
        simp only [if_neg c6, if_pos c7, if_neg c8] at key
        exact rw_sub rw_lz key
      · refine rw_iconst (v := 1) dX0_isGood_84 (by decide) ?_
        refine rw_goto (tgt := 89) dX0_isGood_85 (by decide) ?_
        simp only [if_neg c6, if_pos c7, if_pos c8] at key
        exact rw_sub rw_lz key
set_option maxRecDepth 20000 in
set_option maxHeartbeats 1000000 in
theorem th_X0_isGood_J62 {w : WE} {M : Mem} {b : Nat} {S1 : Nat} {v2 : Int32} (hb : bw_iB b) (hS1 : bw_iS S1) {out : Int32} (h : f_X0_isGood_J62 M b S1 v2 = some out) : RW w 4 0 0 0 0 cX0_isGood RX0 4 (some .boolean) (bw_Z w (bw_pz (out) M)) 62 [(0, .ref (bw_ad w b)), (1, .ref (bw_ad w S1)), (2, .int v2)] [] M := by
  unfold f_X0_isGood_J62 at h
  refine rw_iconst (v := 0) dX0_isGood_62 (by decide) ?_
  exact rw_sub (rw_lc rfl (rw_lc rfl (rw_lc rfl rw_lz))) (th_X0_isGood_J63 hb hS1 h)
set_option maxRecDepth 20000 in
set_option maxHeartbeats 1000000 in
theorem th_X0_isGood_J30 {w : WE} {M : Mem} {b : Nat} {S1 : Nat} {s0 : Int32} (hb : bw_iB b) (hS1 : bw_iS S1) {out : Int32} (h : f_X0_isGood_J30 M b S1 s0 = some out) : RW w 4 0 0 0 0 cX0_isGood RX0 4 (some .boolean) (bw_Z w (bw_pz (out) M)) 30 [(0, .ref (bw_ad w b)), (1, .ref (bw_ad w S1))] [.int s0] M := by
  unfold f_X0_isGood_J30 at h
  refine rw_istore_n dX0_isGood_30 rfl (by decide) ?_
  refine rw_aload_n dX0_isGood_31 rfl rfl ?_
  refine rw_aload_n dX0_isGood_32 rfl rfl ?_
  refine rw_get dX0_isGood_33 fl_RX0_15 (shB hb) (klB hb) rfl ?_
  refine rw_iconst (v := 1) dX0_isGood_36 (by decide) ?_
  refine rw_isub dX0_isGood_37 ?_
  refine rw_callV1 dX0_isGood_38 ln_RX0_33 mv_X6_hasBook (shS hS1) (klS hS1) (ct_X6_hasBook hS1 rfl) (Nat.le_of_ble_eq_true rfl) (Nat.le_of_ble_eq_true rfl) (bw_kkz (fun z3 => ?_))
  refine rw_if_eq (tgt := 62) dX0_isGood_41 (by decide) (fun c4 => ?_) (fun c4 => ?_)
  · have h := bw_it c4 h
    exact rw_sub (rw_lc rfl (rw_lc rfl (rw_lc rfl rw_lz))) (th_X0_isGood_J62 hb hS1 h)
  · have h := bw_if c4 h
    refine rw_aload_n dX0_isGood_44 rfl rfl ?_
    refine rw_get dX0_isGood_45 fl_RX0_37 (shS hS1) (klS hS1) rfl ?_
    refine rw_aload_n dX0_isGood_48 rfl rfl ?_
    refine rw_get dX0_isGood_49 fl_RX0_15 (shB hb) (klB hb) rfl ?_
    refine rw_iconst (v := 1) dX0_isGood_52 (by decide) ?_
    refine rw_isub dX0_isGood_53 ?_
    obtain ⟨g9, h⟩ := bw_gd h
    refine rw_zald dX0_isGood_54 (shS4 hS1) (klS4 hS1) (bw_in g9) ?_
    have key : RW w 4 0 0 0 0 cX0_isGood RX0 4 (some .boolean) (bw_Z w (bw_pz (out) M)) 63 [(0, .ref (bw_ad w b)), (1, .ref (bw_ad w S1)), (2, .int s0)] [.int (if (M (S1 + 4) ((M b 1) - (1 : Int32)).toNatClampNeg) = 0 then (0 : Int32) else (1 : Int32))] M := by
      exact rw_sub (rw_lc rfl (rw_lc rfl (rw_lc rfl rw_lz))) (th_X0_isGood_J63 hb hS1 h)
    refine rw_if_eq (tgt := 62) dX0_isGood_55 (by decide) (fun c10 => ?_) (fun c10 => ?_)
    · refine rw_iconst (v := 0) dX0_isGood_62 (by decide) ?_
      simp only [if_pos c10] at key
      exact rw_sub (rw_lc rfl (rw_lc rfl (rw_lc rfl rw_lz))) key
    · refine rw_iconst (v := 1) dX0_isGood_58 (by decide) ?_
      refine rw_goto (tgt := 63) dX0_isGood_59 (by decide) ?_
      simp only [if_neg c10] at key
      exact rw_sub (rw_lc rfl (rw_lc rfl (rw_lc rfl rw_lz))) key
set_option maxRecDepth 20000 in
set_option maxHeartbeats 1000000 in
theorem th_X0_isGood_J29 {w : WE} {M : Mem} {b : Nat} {S1 : Nat} (hb : bw_iB b) (hS1 : bw_iS S1) {out : Int32} (h : f_X0_isGood_J29 M b S1 = some out) : RW w 4 0 0 0 0 cX0_isGood RX0 4 (some .boolean) (bw_Z w (bw_pz (out) M)) 29 [(0, .ref (bw_ad w b)), (1, .ref (bw_ad w S1))] [] M := by
  unfold f_X0_isGood_J29 at h
  refine rw_iconst (v := 0) dX0_isGood_29 (by decide) ?_
  exact rw_sub (rw_lc rfl (rw_lc rfl rw_lz)) (th_X0_isGood_J30 hb hS1 h)
set_option maxRecDepth 20000 in
set_option maxHeartbeats 1000000 in
theorem ct_X0_isGood {w : WE} {M : Mem} {b : Nat} {S1 : Nat} (hb : bw_iB b) (hS1 : bw_iS S1) {out : Int32} (h : f_X0_isGood M b S1 = some out) : Ct w 4 yX0_isGood cX0_isGood 4 (some .boolean) [.ref (bw_ad w b), .ref (bw_ad w S1)] M (bw_pz (out) M) := by
  refine Ct.of (own := RX0) rfl (by decide) (by intro v hv; simp only [List.mem_cons, List.not_mem_nil, or_false] at hv; rcases hv with rfl | rfl <;> first | rfl | exact bw_cat_rf _) (Nat.le_of_ble_eq_true rfl) ?_
  unfold f_X0_isGood at h
  show RW w 4 0 0 0 0 cX0_isGood RX0 4 (some .boolean) (bw_Z w (bw_pz (out) M)) 0 [(0, .ref (bw_ad w b)), (1, .ref (bw_ad w S1))] [] M
  refine rw_aload_n dX0_isGood_0 rfl rfl ?_
  refine rw_aload_n dX0_isGood_1 rfl rfl ?_
  refine rw_get dX0_isGood_2 fl_RX0_18 (shB hb) (klB hb) rfl ?_
  refine rw_iconst (v := 1) dX0_isGood_5 (by decide) ?_
  refine rw_iadd dX0_isGood_6 ?_
  refine rw_callV1 dX0_isGood_7 ln_RX0_33 mv_X6_hasBook (shS hS1) (klS hS1) (ct_X6_hasBook hS1 rfl) (Nat.le_of_ble_eq_true rfl) (Nat.le_of_ble_eq_true rfl) (bw_kkz (fun z1 => ?_))
  refine rw_if_eq (tgt := 29) dX0_isGood_10 (by decide) (fun c2 => ?_) (fun c2 => ?_)
  · have h := bw_it c2 h
    exact rw_sub (rw_lc rfl (rw_lc rfl rw_lz)) (th_X0_isGood_J29 hb hS1 h)
  · have h := bw_if c2 h
    refine rw_aload_n dX0_isGood_13 rfl rfl ?_
    refine rw_get dX0_isGood_14 fl_RX0_37 (shS hS1) (klS hS1) rfl ?_
    refine rw_aload_n dX0_isGood_17 rfl rfl ?_
    refine rw_get dX0_isGood_18 fl_RX0_18 (shB hb) (klB hb) rfl ?_
    obtain ⟨g11, h⟩ := bw_gd h
    refine rw_zald dX0_isGood_21 (shS4 hS1) (klS4 hS1) (bw_in g11) ?_
    have key : RW w 4 0 0 0 0 cX0_isGood RX0 4 (some .boolean) (bw_Z w (bw_pz (out) M)) 30 [(0, .ref (bw_ad w b)), (1, .ref (bw_ad w S1))] [.int (if (M (S1 + 4) (M b 2).toNatClampNeg) = 0 then (0 : Int32) else (1 : Int32))] M := by
      exact rw_sub (rw_lc rfl (rw_lc rfl rw_lz)) (th_X0_isGood_J30 hb hS1 h)
    refine rw_if_eq (tgt := 29) dX0_isGood_22 (by decide) (fun c12 => ?_) (fun c12 => ?_)
    · refine rw_iconst (v := 0) dX0_isGood_29 (by decide) ?_
      simp only [if_pos c12] at key
      exact rw_sub (rw_lc rfl (rw_lc rfl rw_lz)) key
    · refine rw_iconst (v := 1) dX0_isGood_25 (by decide) ?_
      refine rw_goto (tgt := 30) dX0_isGood_26 (by decide) ?_
      simp only [if_neg c12] at key
      exact rw_sub (rw_lc rfl (rw_lc rfl rw_lz)) key
set_option maxRecDepth 20000 in
set_option maxHeartbeats 1000000 in
theorem ct_X1_operand {w : WE} {M : Mem} {v0 : Int32} {v1 : Int32} {v2 : Int32} {v3 : Int32} {out : Int32} (h : f_X1_operand v0 v1 v2 v3 = out) : Ct w 0 yX1_operand cX1_operand 4 (some .int) [.int v0, .int v1, .int v2, .int v3] M (bw_pi (out) M) := by
  refine Ct.of (own := RX1) rfl (by decide) (by intro v hv; simp only [List.mem_cons, List.not_mem_nil, or_false] at hv; rcases hv with rfl | rfl | rfl | rfl <;> first | rfl | exact bw_cat_rf _) (Nat.le_of_ble_eq_true rfl) ?_
  unfold f_X1_operand at h
  show RW w 0 0 0 0 0 cX1_operand RX1 4 (some .int) (bw_Z w (bw_pi (out) M)) 0 [(0, .int v0), (1, .int v1), (2, .int v2), (3, .int v3)] [] M
  refine rw_iload_n dX1_operand_0 rfl rfl ?_
  refine rw_case (-3 : Int32) (fun c1 => ?_) (fun c1 => ?_)
  · have h := bw_it c1 h
    refine rw_tabK (tgt := 32) dX1_operand_1 c1 (by decide) (by decide) rfl (by decide) ?_
    refine rw_iload_n dX1_operand_32 rfl rfl ?_
    subst h
    exact rw_iret dX1_operand_33 ⟨rfl, rfl⟩
  · have h := bw_if c1 h
    refine rw_case (-2 : Int32) (fun c2 => ?_) (fun c2 => ?_)
    · have h := bw_it c2 h
      refine rw_tabK (tgt := 30) dX1_operand_1 c2 (by decide) (by decide) rfl (by decide) ?_
      refine rw_iload_n dX1_operand_30 rfl rfl ?_
      subst h
      exact rw_iret dX1_operand_31 ⟨rfl, rfl⟩
    · have h := bw_if c2 h
      refine rw_case (-1 : Int32) (fun c3 => ?_) (fun c3 => ?_)
      · have h := bw_it c3 h
        refine rw_tabK (tgt := 28) dX1_operand_1 c3 (by decide) (by decide) rfl (by decide) ?_
        refine rw_iload_n dX1_operand_28 rfl rfl ?_
        subst h
        exact rw_iret dX1_operand_29 ⟨rfl, rfl⟩
      · have h := bw_if c3 h
        refine rw_tabD (tgt := 34) dX1_operand_1 (by have := lv_neT (a := -3) c1 (by decide); have := lv_neT (a := -2) c2 (by decide); have := lv_neT (a := -1) c3 (by decide); omega) (by decide) ?_
        refine rw_iload_n dX1_operand_34 rfl rfl ?_
        subst h
        exact rw_iret dX1_operand_35 ⟨rfl, rfl⟩
set_option maxRecDepth 20000 in
set_option maxHeartbeats 1000000 in
theorem ct_X1_joined {w : WE} {M : Mem} {v0 : Int32} {v1 : Int32} {v2 : Int32} {out : Int32} (h : f_X1_joined v0 v1 v2 = some out) : Ct w 0 yX1_joined cX1_joined 3 (some .int) [.int v0, .int v1, .int v2] M (bw_pi (out) M) := by
  refine Ct.of (own := RX1) rfl (by decide) (by intro v hv; simp only [List.mem_cons, List.not_mem_nil, or_false] at hv; rcases hv with rfl | rfl | rfl <;> first | rfl | exact bw_cat_rf _) (Nat.le_of_ble_eq_true rfl) ?_
  unfold f_X1_joined at h
  show RW w 0 0 0 0 0 cX1_joined RX1 3 (some .int) (bw_Z w (bw_pi (out) M)) 0 [(0, .int v0), (1, .int v1), (2, .int v2)] [] M
  refine rw_iload_n dX1_joined_0 rfl rfl ?_
  refine rw_case (38 : Int32) (fun c1 => ?_) (fun c1 => ?_)
  · have h := bw_it c1 h
    refine rw_lookup (off := 89) (tgt := 90) dX1_joined_1 (by decide) (by first | (rw [c1]; done) | (rw [c1]; rfl)) (by decide) ?_
    refine rw_iload_n dX1_joined_90 rfl rfl ?_
    have key : RW w 0 0 0 0 0 cX1_joined RX1 3 (some .int) (bw_Z w (bw_pi (out) M)) 103 [] [.int (if v1 = 0 then (0 : Int32) else (if v2 = 0 then (0 : Int32) else (1 : Int32)))] M := by
      have h := Option.some.inj h
      subst h
      exact rw_iret dX1_joined_103 ⟨rfl, rfl⟩
    refine rw_if_eq (tgt := 102) dX1_joined_91 (by decide) (fun c2 => ?_) (fun c2 => ?_)
    · refine rw_iconst (v := 0) dX1_joined_102 (by decide) ?_
      simp only [if_pos c2] at key
      exact rw_sub rw_lz key
    · refine rw_iload_n dX1_joined_94 rfl rfl ?_
      refine rw_if_eq (tgt := 102) dX1_joined_95 (by decide) (fun c3 => ?_) (fun c3 => ?_)
      · refine rw_iconst (v := 0) dX1_joined_102 (by decide) ?_
        simp only [if_neg c2, if_pos c3] at key
        exact rw_sub rw_lz key
      · refine rw_iconst (v := 1) dX1_joined_98 (by decide) ?_
        refine rw_goto (tgt := 103) dX1_joined_99 (by decide) ?_
        simp only [if_neg c2, if_neg c3] at key
        exact rw_sub rw_lz key
  · have h := bw_if c1 h
    refine rw_case (42 : Int32) (fun c4 => ?_) (fun c4 => ?_)
    · have h := bw_it c4 h
      refine rw_lookup (off := 144) (tgt := 145) dX1_joined_1 (by decide) (by first | (rw [c4]; done) | (rw [c4]; rfl)) (by decide) ?_
      refine rw_iload_n dX1_joined_145 rfl rfl ?_
      refine rw_iload_n dX1_joined_146 rfl rfl ?_
      refine rw_imul dX1_joined_147 ?_
      have h := Option.some.inj h
      subst h
      exact rw_iret dX1_joined_148 ⟨rfl, rfl⟩
    · have h := bw_if c4 h
      refine rw_case (43 : Int32) (fun c5 => ?_) (fun c5 => ?_)
      · have h := bw_it c5 h
        refine rw_lookup (off := 136) (tgt := 137) dX1_joined_1 (by decide) (by first | (rw [c5]; done) | (rw [c5]; rfl)) (by decide) ?_
        refine rw_iload_n dX1_joined_137 rfl rfl ?_
        refine rw_iload_n dX1_joined_138 rfl rfl ?_
        refine rw_iadd dX1_joined_139 ?_
        have h := Option.some.inj h
        subst h
        exact rw_iret dX1_joined_140 ⟨rfl, rfl⟩
      · have h := bw_if c5 h
        refine rw_case (45 : Int32) (fun c6 => ?_) (fun c6 => ?_)
        · have h := bw_it c6 h
          refine rw_lookup (off := 140) (tgt := 141) dX1_joined_1 (by decide) (by first | (rw [c6]; done) | (rw [c6]; rfl)) (by decide) ?_
          refine rw_iload_n dX1_joined_141 rfl rfl ?_
          refine rw_iload_n dX1_joined_142 rfl rfl ?_
          refine rw_isub dX1_joined_143 ?_
          have h := Option.some.inj h
          subst h
          exact rw_iret dX1_joined_144 ⟨rfl, rfl⟩
        · have h := bw_if c6 h
          refine rw_case (60 : Int32) (fun c7 => ?_) (fun c7 => ?_)
          · have h := bw_it c7 h
            refine rw_lookup (off := 103) (tgt := 104) dX1_joined_1 (by decide) (by first | (rw [c7]; done) | (rw [c7]; rfl)) (by decide) ?_
            refine rw_iload_n dX1_joined_104 rfl rfl ?_
            refine rw_iload_n dX1_joined_105 rfl rfl ?_
            have key : RW w 0 0 0 0 0 cX1_joined RX1 3 (some .int) (bw_Z w (bw_pi (out) M)) 114 [] [.int (if v2 ≤ v1 then (0 : Int32) else (1 : Int32))] M := by
              have h := Option.some.inj h
              subst h
              exact rw_iret dX1_joined_114 ⟨rfl, rfl⟩
            refine rw_icmp_ge (tgt := 113) dX1_joined_106 (by decide) (fun c8 => ?_) (fun c8 => ?_)
            · refine rw_iconst (v := 0) dX1_joined_113 (by decide) ?_
              simp only [if_pos c8] at key
              exact rw_sub rw_lz key
            · refine rw_iconst (v := 1) dX1_joined_109 (by decide) ?_
              refine rw_goto (tgt := 114) dX1_joined_110 (by decide) ?_
              simp only [if_neg c8] at key
              exact rw_sub rw_lz key
          · have h := bw_if c7 h
            refine rw_case (61 : Int32) (fun c9 => ?_) (fun c9 => ?_)
            · have h := bw_it c9 h
              refine rw_lookup (off := 114) (tgt := 115) dX1_joined_1 (by decide) (by first | (rw [c9]; done) | (rw [c9]; rfl)) (by decide) ?_
              refine rw_iload_n dX1_joined_115 rfl rfl ?_
              refine rw_iload_n dX1_joined_116 rfl rfl ?_
              have key : RW w 0 0 0 0 0 cX1_joined RX1 3 (some .int) (bw_Z w (bw_pi (out) M)) 125 [] [.int (if v1 = v2 then (1 : Int32) else (0 : Int32))] M := by
                have h := Option.some.inj h
                subst h
                exact rw_iret dX1_joined_125 ⟨rfl, rfl⟩
              refine rw_icmp_ne (tgt := 124) dX1_joined_117 (by decide) (fun c10 => ?_) (fun c10 => ?_)
              · refine rw_iconst (v := 0) dX1_joined_124 (by decide) ?_
                simp only [if_neg c10] at key
                exact rw_sub rw_lz key
              · refine rw_iconst (v := 1) dX1_joined_120 (by decide) ?_
                refine rw_goto (tgt := 125) dX1_joined_121 (by decide) ?_
                simp only [if_pos c10] at key
                exact rw_sub rw_lz key
            · have h := bw_if c9 h
              refine rw_case (62 : Int32) (fun c11 => ?_) (fun c11 => ?_)
              · have h := bw_it c11 h
                refine rw_lookup (off := 125) (tgt := 126) dX1_joined_1 (by decide) (by first | (rw [c11]; done) | (rw [c11]; rfl)) (by decide) ?_
                refine rw_iload_n dX1_joined_126 rfl rfl ?_
                refine rw_iload_n dX1_joined_127 rfl rfl ?_
                have key : RW w 0 0 0 0 0 cX1_joined RX1 3 (some .int) (bw_Z w (bw_pi (out) M)) 136 [] [.int (if v1 ≤ v2 then (0 : Int32) else (1 : Int32))] M := by
                  have h := Option.some.inj h
                  subst h
                  exact rw_iret dX1_joined_136 ⟨rfl, rfl⟩
                refine rw_icmp_le (tgt := 135) dX1_joined_128 (by decide) (fun c12 => ?_) (fun c12 => ?_)
                · refine rw_iconst (v := 0) dX1_joined_135 (by decide) ?_
                  simp only [if_pos c12] at key
                  exact rw_sub rw_lz key
                · refine rw_iconst (v := 1) dX1_joined_131 (by decide) ?_
                  refine rw_goto (tgt := 136) dX1_joined_132 (by decide) ?_
                  simp only [if_neg c12] at key
                  exact rw_sub rw_lz key
              · have h := bw_if c11 h
                refine rw_case (124 : Int32) (fun c13 => ?_) (fun c13 => ?_)
                · have h := bw_it c13 h
                  refine rw_lookup (off := 75) (tgt := 76) dX1_joined_1 (by decide) (by first | (rw [c13]; done) | (rw [c13]; rfl)) (by decide) ?_
                  refine rw_iload_n dX1_joined_76 rfl rfl ?_
                  have key : RW w 0 0 0 0 0 cX1_joined RX1 3 (some .int) (bw_Z w (bw_pi (out) M)) 89 [] [.int (if v1 = 0 then (if v2 = 0 then (0 : Int32) else (1 : Int32)) else (1 : Int32))] M := by
                    have h := Option.some.inj h
                    subst h
                    exact rw_iret dX1_joined_89 ⟨rfl, rfl⟩
                  refine rw_if_ne (tgt := 84) dX1_joined_77 (by decide) (fun c14 => ?_) (fun c14 => ?_)
                  · refine rw_iconst (v := 1) dX1_joined_84 (by decide) ?_
                    refine rw_goto (tgt := 89) dX1_joined_85 (by decide) ?_
                    simp only [if_neg c14] at key
                    exact rw_sub rw_lz key
                  · refine rw_iload_n dX1_joined_80 rfl rfl ?_
                    refine rw_if_eq (tgt := 88) dX1_joined_81 (by decide) (fun c15 => ?_) (fun c15 => ?_)
                    · refine rw_iconst (v := 0) dX1_joined_88 (by decide) ?_
                      simp only [if_pos c14, if_pos c15] at key
                      exact rw_sub rw_lz key
                    · refine rw_iconst (v := 1) dX1_joined_84 (by decide) ?_
                      refine rw_goto (tgt := 89) dX1_joined_85 (by decide) ?_
                      simp only [if_pos c14, if_neg c15] at key
                      exact rw_sub rw_lz key
                · have h := bw_if c13 h
                  refine rw_lookup (off := 148) (tgt := 149) dX1_joined_1 (by decide) (by first | (rw [lv_osw (a := 38) c1 (by decide), lv_osw (a := 42) c4 (by decide), lv_osw (a := 43) c5 (by decide), lv_osw (a := 45) c6 (by decide), lv_osw (a := 60) c7 (by decide), lv_osw (a := 61) c9 (by decide), lv_osw (a := 62) c11 (by decide), lv_osw (a := 124) c13 (by decide)]; done) | (rw [lv_osw (a := 38) c1 (by decide), lv_osw (a := 42) c4 (by decide), lv_osw (a := 43) c5 (by decide), lv_osw (a := 45) c6 (by decide), lv_osw (a := 60) c7 (by decide), lv_osw (a := 61) c9 (by decide), lv_osw (a := 62) c11 (by decide), lv_osw (a := 124) c13 (by decide)]; rfl)) (by decide) ?_
                  refine rw_iload_n dX1_joined_149 rfl rfl ?_
                  refine rw_if_ne (tgt := 157) dX1_joined_150 (by decide) (fun c16 => ?_) (fun c16 => ?_)
                  · have h := bw_if c16 h
                    refine rw_iload_n dX1_joined_157 rfl rfl ?_
                    refine rw_iload_n dX1_joined_158 rfl rfl ?_
                    obtain ⟨g17, h⟩ := bw_gd h
                    refine rw_idiv dX1_joined_159 g17 ?_
                    have h := Option.some.inj h
                    subst h
                    exact rw_iret dX1_joined_160 ⟨rfl, rfl⟩
                  · have h := bw_it c16 h
                    refine rw_iconst (v := 0) dX1_joined_153 (by decide) ?_
                    refine rw_goto (tgt := 160) dX1_joined_154 (by decide) ?_
                    have h := Option.some.inj h
                    subst h
                    exact rw_iret dX1_joined_160 ⟨rfl, rfl⟩
set_option maxRecDepth 20000 in
set_option maxHeartbeats 1000000 in
theorem th_X1_gives_L6 {w : WE} {c : Int32} {v1 : Int32} {v2 : Int32} {v3 : Int32} {out : Int32 × Mem} : ∀ (n : Nat) (v4 : Int32) (v5 : Int32) (M : Mem), f_X1_gives_L6 c v1 v2 v3 n v4 v5 M = some out → RW w 1 0 0 0 0 cX1_gives RX1 7 (some .int) (bw_Z w (bw_pi (out.1) out.2)) 6 [(0, va_rf (bw_lr w c)), (1, .int v1), (2, .int v2), (3, .int v3), (4, .int v4), (5, .int v5)] [] M := by
  intro n
  induction n with
  | zero => intro v4 v5 M h; cases h
  | succ n ih =>
    intro v4 v5 M h
    rw [f_X1_gives_L6] at h
    refine rw_iload dX1_gives_6 rfl ?_
    refine rw_aload_nQ dX1_gives_8 rfl rfl ?_
    obtain ⟨g1, h⟩ := bw_gd h
    refine rw_getL dX1_gives_9 fl_RX1_16 g1 rfl ?_
    refine rw_alenL1 dX1_gives_12 g1 ?_
    refine rw_icmp_ge (tgt := 146) dX1_gives_13 (by decide) (fun c2 => ?_) (fun c2 => ?_)
    · have h := bw_it c2 h
      refine rw_aload_nQ dX1_gives_146 rfl rfl ?_
      refine rw_getL dX1_gives_147 fl_RX1_26 g1 rfl ?_
      refine rw_iconst (v := 0) dX1_gives_150 (by decide) ?_
      obtain ⟨g3, h⟩ := bw_gd h
      refine rw_ialdL2 dX1_gives_151 g1 (bw_in g3) ?_
      have h := Option.some.inj h
      subst h
      exact rw_iret dX1_gives_152 ⟨rfl, rfl⟩
    · have h := bw_if c2 h
      refine rw_aload_nQ dX1_gives_16 rfl rfl ?_
      refine rw_getL dX1_gives_17 fl_RX1_16 g1 rfl ?_
      refine rw_iload dX1_gives_20 rfl ?_
      obtain ⟨g4, h⟩ := bw_gd h
      refine rw_ialdL1 dX1_gives_22 g1 (bw_in g4) ?_
      obtain ⟨x5, hx5, h⟩ := bw_mlE h
      refine rw_ti hx5 ?_
      refine rw_istore dX1_gives_23 (by decide) ?_
      refine rw_iload dX1_gives_25 rfl ?_
      refine rw_bipush (v := -3) dX1_gives_27 (by decide) ?_
      refine rw_icmp_lt (tgt := 65) dX1_gives_29 (by decide) (fun c6 => ?_) (fun c6 => ?_)
      · have h := bw_it c6 h
        refine rw_iload dX1_gives_65 rfl ?_
        refine rw_bipush (v := -33) dX1_gives_67 (by decide) ?_
        refine rw_icmp_ne (tgt := 102) dX1_gives_69 (by decide) (fun c7 => ?_) (fun c7 => ?_)
        · have h := bw_if c7 h
          refine rw_iload dX1_gives_102 rfl ?_
          refine rw_iconst (v := 1) dX1_gives_104 (by decide) ?_
          refine rw_icmp_lt (tgt := 140) dX1_gives_105 (by decide) (fun c8 => ?_) (fun c8 => ?_)
          · have h := bw_it c8 h
            refine rw_inc dX1_gives_140 rfl (by decide) ?_
            refine rw_goto (tgt := 6) dX1_gives_143 (by decide) ?_
            exact rw_sub (rw_lc rfl (rw_lc rfl (rw_lc rfl (rw_lc rfl (rw_lc rfl (rw_lc rfl rw_lz)))))) (ih v4 (v5 + 1) M h)
          · have h := bw_if c8 h
            refine rw_dec dX1_gives_108 rfl (by decide) ?_
            refine rw_aload_nQ dX1_gives_111 rfl rfl ?_
            refine rw_getL dX1_gives_112 fl_RX1_26 g1 rfl ?_
            refine rw_iload dX1_gives_115 rfl ?_
            refine rw_iload dX1_gives_117 rfl ?_
            refine rw_ineg dX1_gives_119 ?_
            refine rw_aload_nQ dX1_gives_120 rfl rfl ?_
            refine rw_getL dX1_gives_121 fl_RX1_26 g1 rfl ?_
            refine rw_iload dX1_gives_124 rfl ?_
            obtain ⟨g9, h⟩ := bw_gd h
            refine rw_ialdL2 dX1_gives_126 g1 (bw_in g9) ?_
            refine rw_aload_nQ dX1_gives_127 rfl rfl ?_
            refine rw_getL dX1_gives_128 fl_RX1_26 g1 rfl ?_
            refine rw_iload dX1_gives_131 rfl ?_
            refine rw_iconst (v := 1) dX1_gives_133 (by decide) ?_
            refine rw_iadd dX1_gives_134 ?_
            obtain ⟨g10, h⟩ := bw_gd h
            refine rw_ialdL2 dX1_gives_135 g1 (bw_in g10) ?_
            obtain ⟨q11, hq11, h⟩ := bw_bd h
            refine rw_callS3 dX1_gives_136 ln_RX1_35 ms_X1_joined (ct_X1_joined hq11) (Nat.le_of_ble_eq_true rfl) (Nat.le_of_ble_eq_true rfl) (bw_kki ?_)
            obtain ⟨g12, h⟩ := bw_gd h
            obtain ⟨g13, h⟩ := bw_gd h
            refine rw_iastL2 dX1_gives_139 g1 (bw_in g12) (bw_lt g13) ?_
            obtain ⟨M14, hM14, h⟩ := bw_mlE h
            refine rw_m hM14.symm ?_
            refine rw_inc dX1_gives_140 rfl (by decide) ?_
            refine rw_goto (tgt := 6) dX1_gives_143 (by decide) ?_
            exact rw_sub (rw_lc rfl (rw_lc rfl (rw_lc rfl (rw_lc rfl (rw_lc rfl (rw_lc rfl rw_lz)))))) (ih (v4 - 1) (v5 + 1) M14 h)
        · have h := bw_it c7 h
          refine rw_iload dX1_gives_72 rfl ?_
          refine rw_if_lt (tgt := 140) dX1_gives_74 (by decide) (fun c15 => ?_) (fun c15 => ?_)
          · have h := bw_it c15 h
            refine rw_inc dX1_gives_140 rfl (by decide) ?_
            refine rw_goto (tgt := 6) dX1_gives_143 (by decide) ?_
            exact rw_sub (rw_lc rfl (rw_lc rfl (rw_lc rfl (rw_lc rfl (rw_lc rfl (rw_lc rfl rw_lz)))))) (ih v4 (v5 + 1) M h)
          · have h := bw_if c15 h
            refine rw_aload_nQ dX1_gives_77 rfl rfl ?_
            refine rw_getL dX1_gives_78 fl_RX1_26 g1 rfl ?_
            refine rw_iload dX1_gives_81 rfl ?_
            refine rw_aload_nQ dX1_gives_83 rfl rfl ?_
            refine rw_getL dX1_gives_84 fl_RX1_26 g1 rfl ?_
            refine rw_iload dX1_gives_87 rfl ?_
            obtain ⟨g16, h⟩ := bw_gd h
            refine rw_ialdL2 dX1_gives_89 g1 (bw_in g16) ?_
            have key : RW w 1 0 0 0 0 cX1_gives RX1 7 (some .int) (bw_Z w (bw_pi (out.1) out.2)) 98 [(0, va_rf (bw_lr w c)), (1, .int v1), (2, .int v2), (3, .int v3), (4, .int v4), (5, .int v5)] [.int (if (M (bw_lc c + 2) v4.toNatClampNeg) = 0 then (1 : Int32) else (0 : Int32)), .int v4, .ref (bw_ad w (bw_lc c + 2))] M := by
              obtain ⟨g18, h⟩ := bw_gd h
              obtain ⟨g19, h⟩ := bw_gd h
              refine rw_iastL2 dX1_gives_98 g1 (bw_in g18) (bw_lt g19) ?_
              obtain ⟨M20, hM20, h⟩ := bw_mlE h
              refine rw_m hM20.symm ?_
              refine rw_goto (tgt := 140) dX1_gives_99 (by decide) ?_
              refine rw_inc dX1_gives_140 rfl (by decide) ?_
              refine rw_goto (tgt := 6) dX1_gives_143 (by decide) ?_
              exact rw_sub (rw_lc rfl (rw_lc rfl (rw_lc rfl (rw_lc rfl (rw_lc rfl (rw_lc rfl rw_lz)))))) (ih v4 (v5 + 1) M20 h)
            refine rw_if_ne (tgt := 97) dX1_gives_90 (by decide) (fun c17 => ?_) (fun c17 => ?_)
            · refine rw_iconst (v := 0) dX1_gives_97 (by decide) ?_
              simp only [if_neg c17] at key
              exact rw_sub (rw_lc rfl (rw_lc rfl (rw_lc rfl (rw_lc rfl (rw_lc rfl (rw_lc rfl rw_lz)))))) key
            · refine rw_iconst (v := 1) dX1_gives_93 (by decide) ?_
              refine rw_goto (tgt := 98) dX1_gives_94 (by decide) ?_
              simp only [if_pos c17] at key
              exact rw_sub (rw_lc rfl (rw_lc rfl (rw_lc rfl (rw_lc rfl (rw_lc rfl (rw_lc rfl rw_lz)))))) key
      · have h := bw_if c6 h
        refine rw_iload dX1_gives_32 rfl ?_
        refine rw_iconst (v := 1) dX1_gives_34 (by decide) ?_
        refine rw_iadd dX1_gives_35 ?_
        refine rw_aload_nQ dX1_gives_36 rfl rfl ?_
        refine rw_getL dX1_gives_37 fl_RX1_26 g1 rfl ?_
        refine rw_alenL2 dX1_gives_40 g1 ?_
        refine rw_icmp_ge (tgt := 140) dX1_gives_41 (by decide) (fun c21 => ?_) (fun c21 => ?_)
        · have h := bw_it c21 h
          refine rw_inc dX1_gives_140 rfl (by decide) ?_
          refine rw_goto (tgt := 6) dX1_gives_143 (by decide) ?_
          exact rw_sub (rw_lc rfl (rw_lc rfl (rw_lc rfl (rw_lc rfl (rw_lc rfl (rw_lc rfl rw_lz)))))) (ih v4 (v5 + 1) M h)
        · have h := bw_if c21 h
          refine rw_inc dX1_gives_44 rfl (by decide) ?_
          refine rw_aload_nQ dX1_gives_47 rfl rfl ?_
          refine rw_getL dX1_gives_48 fl_RX1_26 g1 rfl ?_
          refine rw_iload dX1_gives_51 rfl ?_
          refine rw_iload dX1_gives_53 rfl ?_
          refine rw_iload_n dX1_gives_55 rfl rfl ?_
          refine rw_iload_n dX1_gives_56 rfl rfl ?_
          refine rw_iload_n dX1_gives_57 rfl rfl ?_
          refine rw_callS4 dX1_gives_58 ln_RX1_31 ms_X1_operand (ct_X1_operand rfl) (Nat.le_of_ble_eq_true rfl) (Nat.le_of_ble_eq_true rfl) (bw_kki ?_)
          obtain ⟨g22, h⟩ := bw_gd h
          obtain ⟨g23, h⟩ := bw_gd h
          refine rw_iastL2 dX1_gives_61 g1 (bw_in g22) (bw_lt g23) ?_
          obtain ⟨M24, hM24, h⟩ := bw_mlE h
          refine rw_m hM24.symm ?_
          refine rw_goto (tgt := 140) dX1_gives_62 (by decide) ?_
          refine rw_inc dX1_gives_140 rfl (by decide) ?_
          refine rw_goto (tgt := 6) dX1_gives_143 (by decide) ?_
          exact rw_sub (rw_lc rfl (rw_lc rfl (rw_lc rfl (rw_lc rfl (rw_lc rfl (rw_lc rfl rw_lz)))))) (ih (v4 + 1) (v5 + 1) M24 h)
set_option maxRecDepth 20000 in
set_option maxHeartbeats 1000000 in
theorem ct_X1_gives {w : WE} {M : Mem} {c : Int32} {v1 : Int32} {v2 : Int32} {v3 : Int32} {out : Int32 × Mem} (h : f_X1_gives M c v1 v2 v3 = some out) : Ct w 1 yX1_gives cX1_gives 7 (some .int) [va_rf (bw_lr w c), .int v1, .int v2, .int v3] M (bw_pi (out.1) out.2) := by
  refine Ct.of (own := RX1) rfl (by decide) (by intro v hv; simp only [List.mem_cons, List.not_mem_nil, or_false] at hv; rcases hv with rfl | rfl | rfl | rfl <;> first | rfl | exact bw_cat_rf _) (Nat.le_of_ble_eq_true rfl) ?_
  unfold f_X1_gives at h
  show RW w 1 0 0 0 0 cX1_gives RX1 7 (some .int) (bw_Z w (bw_pi (out.1) out.2)) 0 [(0, va_rf (bw_lr w c)), (1, .int v1), (2, .int v2), (3, .int v3)] [] M
  refine rw_iconst (v := -1) dX1_gives_0 (by decide) ?_
  refine rw_istore dX1_gives_1 (by decide) ?_
  refine rw_iconst (v := 0) dX1_gives_3 (by decide) ?_
  refine rw_istore dX1_gives_4 (by decide) ?_
  exact rw_sub (rw_lc rfl (rw_lc rfl (rw_lc rfl (rw_lc rfl (rw_lc rfl (rw_lc rfl rw_lz)))))) (th_X1_gives_L6 bw_fu (-1 : Int32) (0 : Int32) M h)
set_option maxRecDepth 20000 in
set_option maxHeartbeats 1000000 in
theorem th_X6_lastTextOf_L7 {w : WE} {M : Mem} {S : Nat} {v1 : Int32} (hS : bw_iS S) {out : Int32} : ∀ (n : Nat) (v2 : Int32), f_X6_lastTextOf_L7 M S v1 n v2 = some out → RW w 0 0 0 0 0 cX6_lastTextOf RX6 3 (some .int) (bw_Z w (bw_pi (out) M)) 7 [(0, .ref (bw_ad w S)), (1, .int v1), (2, .int v2)] [] M := by
  intro n
  induction n with
  | zero => intro v2 h; cases h
  | succ n ih =>
    intro v2 h
    rw [f_X6_lastTextOf_L7] at h
    refine rw_iload_n dX6_lastTextOf_7 rfl rfl ?_
    refine rw_if_lt (tgt := 41) dX6_lastTextOf_8 (by decide) (fun c1 => ?_) (fun c1 => ?_)
    · have h := bw_it c1 h
      refine rw_ldc dX6_lastTextOf_41 cn_RX6_119 ?_
      have h := Option.some.inj h
      subst h
      exact rw_iret dX6_lastTextOf_43 ⟨rfl, rfl⟩
    · have h := bw_if c1 h
      refine rw_aload_n dX6_lastTextOf_11 rfl rfl ?_
      refine rw_get dX6_lastTextOf_12 fl_RX6_49 (shS hS) (klS hS) rfl ?_
      refine rw_iload_n dX6_lastTextOf_15 rfl rfl ?_
      obtain ⟨g2, h⟩ := bw_gd h
      refine rw_aaldL dX6_lastTextOf_16 (shS7 hS) (klS7 hS) (bw_in g2) ?_
      refine rw_ifnullL (tgt := 35) dX6_lastTextOf_17 (by decide) (fun c3 => ?_) (fun c3 => ?_)
      · have h := bw_it c3 h
        refine rw_dec dX6_lastTextOf_35 rfl (by decide) ?_
        refine rw_goto (tgt := 7) dX6_lastTextOf_38 (by decide) ?_
        exact rw_sub (rw_lc rfl (rw_lc rfl (rw_lc rfl rw_lz))) (ih (v2 - 1) h)
      · have h := bw_if c3 h
        refine rw_aload_n dX6_lastTextOf_20 rfl rfl ?_
        refine rw_get dX6_lastTextOf_21 fl_RX6_49 (shS hS) (klS hS) rfl ?_
        refine rw_iload_n dX6_lastTextOf_24 rfl rfl ?_
        refine rw_aaldL dX6_lastTextOf_25 (shS7 hS) (klS7 hS) (bw_in g2) ?_
        obtain ⟨g4, h⟩ := bw_gd h
        refine rw_getL dX6_lastTextOf_26 fl_RX6_128 g4 rfl ?_
        refine rw_iload_n dX6_lastTextOf_29 rfl rfl ?_
        refine rw_icmp_ne (tgt := 35) dX6_lastTextOf_30 (by decide) (fun c5 => ?_) (fun c5 => ?_)
        · have h := bw_if c5 h
          refine rw_dec dX6_lastTextOf_35 rfl (by decide) ?_
          refine rw_goto (tgt := 7) dX6_lastTextOf_38 (by decide) ?_
          exact rw_sub (rw_lc rfl (rw_lc rfl (rw_lc rfl rw_lz))) (ih (v2 - 1) h)
        · have h := bw_it c5 h
          refine rw_iload_n dX6_lastTextOf_33 rfl rfl ?_
          have h := Option.some.inj h
          subst h
          exact rw_iret dX6_lastTextOf_34 ⟨rfl, rfl⟩
set_option maxRecDepth 20000 in
set_option maxHeartbeats 1000000 in
theorem ct_X6_lastTextOf {w : WE} {M : Mem} {S : Nat} {v1 : Int32} (hS : bw_iS S) {out : Int32} (h : f_X6_lastTextOf M S v1 = some out) : Ct w 0 yX6_lastTextOf cX6_lastTextOf 3 (some .int) [.ref (bw_ad w S), .int v1] M (bw_pi (out) M) := by
  refine Ct.of (own := RX6) rfl (by decide) (by intro v hv; simp only [List.mem_cons, List.not_mem_nil, or_false] at hv; rcases hv with rfl | rfl <;> first | rfl | exact bw_cat_rf _) (Nat.le_of_ble_eq_true rfl) ?_
  unfold f_X6_lastTextOf at h
  show RW w 0 0 0 0 0 cX6_lastTextOf RX6 3 (some .int) (bw_Z w (bw_pi (out) M)) 0 [(0, .ref (bw_ad w S)), (1, .int v1)] [] M
  refine rw_aload_n dX6_lastTextOf_0 rfl rfl ?_
  refine rw_get dX6_lastTextOf_1 fl_RX6_73 (shS hS) (klS hS) rfl ?_
  refine rw_iconst (v := 1) dX6_lastTextOf_4 (by decide) ?_
  refine rw_isub dX6_lastTextOf_5 ?_
  refine rw_istore_n dX6_lastTextOf_6 rfl (by decide) ?_
  exact rw_sub (rw_lc rfl (rw_lc rfl (rw_lc rfl rw_lz))) (th_X6_lastTextOf_L7 hS bw_fu ((M S 13) - (1 : Int32)) h)
set_option maxRecDepth 20000 in
set_option maxHeartbeats 1000000 in
theorem ct_X6_textAt {w : WE} {M : Mem} {S : Nat} {v1 : Int32} (hS : bw_iS S) {out : Int32} (h : f_X6_textAt M S v1 = some out) : Ct w 1 yX6_textAt cX6_textAt 2 (some (.object "BookBoards$Law")) [.ref (bw_ad w S), .int v1] M (bw_pr (va_rf (bw_lr w (out))) M) := by
  refine Ct.of (own := RX6) rfl (by decide) (by intro v hv; simp only [List.mem_cons, List.not_mem_nil, or_false] at hv; rcases hv with rfl | rfl <;> first | rfl | exact bw_cat_rf _) (Nat.le_of_ble_eq_true rfl) ?_
  unfold f_X6_textAt at h
  show RW w 1 0 0 0 0 cX6_textAt RX6 2 (some (.object "BookBoards$Law")) (bw_Z w (bw_pr (va_rf (bw_lr w (out))) M)) 0 [(0, .ref (bw_ad w S)), (1, .int v1)] [] M
  refine rw_iload_n dX6_textAt_0 rfl rfl ?_
  refine rw_iconst (v := 0) dX6_textAt_1 (by decide) ?_
  refine rw_aload_n dX6_textAt_2 rfl rfl ?_
  refine rw_get dX6_textAt_3 fl_RX6_73 (shS hS) (klS hS) rfl ?_
  refine rw_iconst (v := 1) dX6_textAt_6 (by decide) ?_
  refine rw_isub dX6_textAt_7 ?_
  refine rw_callN3 dX6_textAt_8 nx_RX6_76 ms_X9_isWithin (ct_X9_isWithin rfl) (Nat.le_of_ble_eq_true rfl) (Nat.le_of_ble_eq_true rfl) (bw_kkz (fun z1 => ?_))
  refine rw_if_eq (tgt := 23) dX6_textAt_11 (by decide) (fun c2 => ?_) (fun c2 => ?_)
  · have h := bw_it c2 h
    refine rw_nullL dX6_textAt_23 ?_
    have h := Option.some.inj h
    subst h
    exact rw_aret dX6_textAt_24 (Or.inl ⟨_, rfl⟩) (bw_rfv _) ⟨rfl, rfl⟩
  · have h := bw_if c2 h
    refine rw_aload_n dX6_textAt_14 rfl rfl ?_
    refine rw_get dX6_textAt_15 fl_RX6_49 (shS hS) (klS hS) rfl ?_
    refine rw_iload_n dX6_textAt_18 rfl rfl ?_
    obtain ⟨g3, h⟩ := bw_gd h
    refine rw_aaldL dX6_textAt_19 (shS7 hS) (klS7 hS) (bw_in g3) ?_
    refine rw_goto (tgt := 24) dX6_textAt_20 (by decide) ?_
    have h := Option.some.inj h
    subst h
    exact rw_aret dX6_textAt_24 (Or.inl ⟨_, rfl⟩) (bw_rfv _) ⟨rfl, rfl⟩
set_option maxRecDepth 20000 in
set_option maxHeartbeats 1000000 in
theorem ct_X6_lawOf {w : WE} {M : Mem} {S : Nat} {v1 : Int32} (hS : bw_iS S) {out : Int32} (h : f_X6_lawOf M S v1 = some out) : Ct w 2 yX6_lawOf cX6_lawOf 2 (some (.object "BookBoards$Law")) [.ref (bw_ad w S), .int v1] M (bw_pr (va_rf (bw_lr w (out))) M) := by
  refine Ct.of (own := RX6) rfl (by decide) (by intro v hv; simp only [List.mem_cons, List.not_mem_nil, or_false] at hv; rcases hv with rfl | rfl <;> first | rfl | exact bw_cat_rf _) (Nat.le_of_ble_eq_true rfl) ?_
  unfold f_X6_lawOf at h
  show RW w 2 0 0 0 0 cX6_lawOf RX6 2 (some (.object "BookBoards$Law")) (bw_Z w (bw_pr (va_rf (bw_lr w (out))) M)) 0 [(0, .ref (bw_ad w S)), (1, .int v1)] [] M
  refine rw_aload_n dX6_lawOf_0 rfl rfl ?_
  refine rw_aload_n dX6_lawOf_1 rfl rfl ?_
  refine rw_iload_n dX6_lawOf_2 rfl rfl ?_
  obtain ⟨q1, hq1, h⟩ := bw_bd h
  refine rw_callV1 dX6_lawOf_3 ln_RX6_131 mv_X6_lastTextOf (shS hS) (klS hS) (ct_X6_lastTextOf hS hq1) (Nat.le_of_ble_eq_true rfl) (Nat.le_of_ble_eq_true rfl) (bw_kki ?_)
  obtain ⟨q2, hq2, h⟩ := bw_bd h
  refine rw_callV1 dX6_lawOf_6 ln_RX6_134 mv_X6_textAt (shS hS) (klS hS) (ct_X6_textAt hS hq2) (Nat.le_of_ble_eq_true rfl) (Nat.le_of_ble_eq_true rfl) (bw_kkr ?_)
  have h := Option.some.inj h
  subst h
  exact rw_aret dX6_lawOf_9 (Or.inl ⟨_, rfl⟩) (bw_rfv _) ⟨rfl, rfl⟩
set_option maxRecDepth 20000 in
set_option maxHeartbeats 1000000 in
theorem th_X2_load_L10 {w : WE} {S1 : Nat} (hS1 : bw_iS S1) {out : Mem} : ∀ (n : Nat) (v2 : Int32) (M : Mem), f_X2_load_L10 S1 n v2 M = some out → RW w 3 0 0 0 0 cX2_load RX2 3 (some (.object "BookBoards$Plan")) (bw_Z w (bw_pr (.ref (bw_ad w 1)) out)) 10 [(0, .ref (bw_ad w 1)), (1, .ref (bw_ad w S1)), (2, .int v2)] [] M := by
  intro n
  induction n with
  | zero => intro v2 M h; cases h
  | succ n ih =>
    intro v2 M h
    rw [f_X2_load_L10] at h
    refine rw_iload_n dX2_load_10 rfl rfl ?_
    refine rw_aload_n dX2_load_11 rfl rfl ?_
    refine rw_get dX2_load_12 fl_RX2_46 (sh_plan w) (bw_kl (by decide)) rfl ?_
    refine rw_icmp_ge (tgt := 60) dX2_load_15 (by decide) (fun c2 => ?_) (fun c2 => ?_)
    · have h := bw_it c2 h
      refine rw_aload_n dX2_load_60 rfl rfl ?_
      refine rw_aload_n dX2_load_61 rfl rfl ?_
      refine rw_get dX2_load_62 fl_RX2_54 (shS hS1) (klS hS1) rfl ?_
      refine rw_puti dX2_load_65 fl_RX2_57 fp_2_4 (sh_plan w) (bw_kl (by decide)) (by decide) (fun _ => rfl) (fun _ => Nat.le_of_ble_eq_true rfl) ?_
      obtain ⟨M3, hM3, h⟩ := bw_mlE h
      refine rw_m hM3.symm ?_
      refine rw_aload_n dX2_load_68 rfl rfl ?_
      refine rw_aload_n dX2_load_69 rfl rfl ?_
      refine rw_get dX2_load_70 fl_RX2_58 (shS hS1) (klS hS1) rfl ?_
      refine rw_puti dX2_load_73 fl_RX2_61 fp_2_5 (sh_plan w) (bw_kl (by decide)) (by decide) (fun _ => rfl) (fun _ => Nat.le_of_ble_eq_true rfl) ?_
      obtain ⟨M4, hM4, h⟩ := bw_mlE h
      refine rw_m hM4.symm ?_
      refine rw_aload_n dX2_load_76 rfl rfl ?_
      refine rw_aload_n dX2_load_77 rfl rfl ?_
      refine rw_get dX2_load_78 fl_RX2_62 (shS hS1) (klS hS1) rfl ?_
      refine rw_puti dX2_load_81 fl_RX2_65 fp_2_6 (sh_plan w) (bw_kl (by decide)) (by decide) (fun _ => rfl) (fun _ => Nat.le_of_ble_eq_true rfl) ?_
      obtain ⟨M5, hM5, h⟩ := bw_mlE h
      refine rw_m hM5.symm ?_
      refine rw_aload_n dX2_load_84 rfl rfl ?_
      refine rw_aload_n dX2_load_85 rfl rfl ?_
      refine rw_iconst (v := 0) dX2_load_86 (by decide) ?_
      obtain ⟨q6, hq6, h⟩ := bw_bd h
      refine rw_callV1 dX2_load_87 ln_RX2_66 mv_X6_lawOf (shS hS1) (klS hS1) (ct_X6_lawOf hS1 hq6) (Nat.le_of_ble_eq_true rfl) (Nat.le_of_ble_eq_true rfl) (bw_kkr ?_)
      refine rw_putl dX2_load_90 fl_RX2_70 fp_2_7 (sh_plan w) (bw_kl (by decide)) (by decide) (fun _ => rfl) (fun _ => Nat.le_of_ble_eq_true rfl) ?_
      obtain ⟨M7, hM7, h⟩ := bw_mlE h
      refine rw_m hM7.symm ?_
      refine rw_aload_n dX2_load_93 rfl rfl ?_
      refine rw_aload_n dX2_load_94 rfl rfl ?_
      refine rw_get dX2_load_95 fl_RX2_74 (shS hS1) (klS hS1) rfl ?_
      refine rw_puti dX2_load_98 fl_RX2_77 fp_2_9 (sh_plan w) (bw_kl (by decide)) (by decide) (fun _ => rfl) (fun _ => Nat.le_of_ble_eq_true rfl) ?_
      obtain ⟨M8, hM8, h⟩ := bw_mlE h
      refine rw_m hM8.symm ?_
      refine rw_aload_n dX2_load_101 rfl rfl ?_
      refine rw_get dX2_load_102 fl_RX2_80 (shS hS1) (klS hS1) rfl ?_
      refine rw_iconst (v := 0) dX2_load_105 (by decide) ?_
      refine rw_aload_n dX2_load_106 rfl rfl ?_
      refine rw_get dX2_load_107 fl_RX2_22 (sh_plan w) (bw_kl (by decide)) rfl ?_
      refine rw_iconst (v := 0) dX2_load_110 (by decide) ?_
      refine rw_bipush (v := 6) dX2_load_111 (by decide) ?_
      obtain ⟨g9, h⟩ := bw_gd h
      refine rw_acopy dX2_load_113 lj_RX2_83 ac_w (shS6 hS1) (klS6 hS1) (sh_p_heights w) (bw_kl (by decide)) g9 (Nat.le_of_ble_eq_true rfl) (Nat.le_of_ble_eq_true rfl) ?_
      obtain ⟨M10, hM10, h⟩ := bw_mlE h
      refine rw_m hM10.symm ?_
      refine rw_aload_n dX2_load_116 rfl rfl ?_
      refine rw_get dX2_load_117 fl_RX2_70 (sh_plan w) (bw_kl (by decide)) rfl ?_
      refine rw_ifnullL (tgt := 131) dX2_load_120 (by decide) (fun c11 => ?_) (fun c11 => ?_)
      · have h := bw_it c11 h
        refine rw_aload_n dX2_load_131 rfl rfl ?_
        have h := Option.some.inj h
        subst h
        exact rw_aret dX2_load_132 (Or.inl ⟨_, rfl⟩) (Or.inr ⟨_, rfl⟩) ⟨rfl, rfl⟩
      · have h := bw_if c11 h
        refine rw_aload_n dX2_load_123 rfl rfl ?_
        refine rw_get dX2_load_124 fl_RX2_25 (sh_plan w) (bw_kl (by decide)) rfl ?_
        refine rw_iconst (v := -1) dX2_load_127 (by decide) ?_
        refine rw_fill dX2_load_128 lj_RX2_89 (sh_p_price w) (by decide) (by decide) (Nat.le_of_ble_eq_true rfl) (Nat.le_of_ble_eq_true rfl) ?_
        obtain ⟨M12, hM12, h⟩ := bw_mlE h
        refine rw_m hM12.symm ?_
        refine rw_aload_n dX2_load_131 rfl rfl ?_
        have h := Option.some.inj h
        subst h
        exact rw_aret dX2_load_132 (Or.inl ⟨_, rfl⟩) (Or.inr ⟨_, rfl⟩) ⟨rfl, rfl⟩
    · have h := bw_if c2 h
      refine rw_aload_n dX2_load_18 rfl rfl ?_
      refine rw_get dX2_load_19 fl_RX2_11 (sh_plan w) (bw_kl (by decide)) rfl ?_
      refine rw_iload_n dX2_load_22 rfl rfl ?_
      refine rw_aload_n dX2_load_23 rfl rfl ?_
      refine rw_get dX2_load_24 fl_RX2_49 (shS hS1) (klS hS1) rfl ?_
      refine rw_iload_n dX2_load_27 rfl rfl ?_
      obtain ⟨g13, h⟩ := bw_gd h
      refine rw_iald dX2_load_28 (shS1 hS1) (klS1 hS1) (bw_in g13) ?_
      obtain ⟨g14, h⟩ := bw_gd h
      refine rw_iast dX2_load_29 (sh_p_high w) (bw_kl (by decide)) (bw_in g14) ?_
      obtain ⟨M15, hM15, h⟩ := bw_mlE h
      refine rw_m hM15.symm ?_
      refine rw_aload_n dX2_load_30 rfl rfl ?_
      refine rw_get dX2_load_31 fl_RX2_15 (sh_plan w) (bw_kl (by decide)) rfl ?_
      refine rw_iload_n dX2_load_34 rfl rfl ?_
      refine rw_aload_n dX2_load_35 rfl rfl ?_
      refine rw_get dX2_load_36 fl_RX2_52 (shS hS1) (klS hS1) rfl ?_
      refine rw_iload_n dX2_load_39 rfl rfl ?_
      refine rw_iald dX2_load_40 (shS2 hS1) (klS2 hS1) (bw_in g13) ?_
      refine rw_iast dX2_load_41 (sh_p_thick w) (bw_kl (by decide)) (bw_in g14) ?_
      obtain ⟨M16, hM16, h⟩ := bw_mlE h
      refine rw_m hM16.symm ?_
      refine rw_aload_n dX2_load_42 rfl rfl ?_
      refine rw_get dX2_load_43 fl_RX2_18 (sh_plan w) (bw_kl (by decide)) rfl ?_
      refine rw_iload_n dX2_load_46 rfl rfl ?_
      refine rw_aload_n dX2_load_47 rfl rfl ?_
      refine rw_get dX2_load_48 fl_RX2_53 (shS hS1) (klS hS1) rfl ?_
      refine rw_iload_n dX2_load_51 rfl rfl ?_
      refine rw_zald dX2_load_52 (shS4 hS1) (klS4 hS1) (bw_in g13) ?_
      refine rw_zast dX2_load_53 (sh_p_tied w) (bw_kl (by decide)) (bw_in g14) ?_
      obtain ⟨M17, hM17, h⟩ := bw_mlE h
      refine rw_m hM17.symm ?_
      refine rw_inc dX2_load_54 rfl (by decide) ?_
      refine rw_goto (tgt := 10) dX2_load_57 (by decide) ?_
      exact rw_sub (rw_lc rfl (rw_lc rfl (rw_lc rfl rw_lz))) (ih (v2 + 1) M17 h)
set_option maxRecDepth 20000 in
set_option maxHeartbeats 1000000 in
theorem ct_X2_load {w : WE} {M : Mem} {S1 : Nat} (hS1 : bw_iS S1) {out : Mem} (h : f_X2_load M S1 = some out) : Ct w 3 yX2_load cX2_load 3 (some (.object "BookBoards$Plan")) [.ref (bw_ad w 1), .ref (bw_ad w S1)] M (bw_pr (.ref (bw_ad w 1)) out) := by
  refine Ct.of (own := RX2) rfl (by decide) (by intro v hv; simp only [List.mem_cons, List.not_mem_nil, or_false] at hv; rcases hv with rfl | rfl <;> first | rfl | exact bw_cat_rf _) (Nat.le_of_ble_eq_true rfl) ?_
  unfold f_X2_load at h
  show RW w 3 0 0 0 0 cX2_load RX2 3 (some (.object "BookBoards$Plan")) (bw_Z w (bw_pr (.ref (bw_ad w 1)) out)) 0 [(0, .ref (bw_ad w 1)), (1, .ref (bw_ad w S1))] [] M
  refine rw_aload_n dX2_load_0 rfl rfl ?_
  refine rw_aload_n dX2_load_1 rfl rfl ?_
  refine rw_get dX2_load_2 fl_RX2_40 (shS hS1) (klS hS1) rfl ?_
  refine rw_puti dX2_load_5 fl_RX2_46 fp_2_0 (sh_plan w) (bw_kl (by decide)) (by decide) (fun _ => rfl) (fun _ => Nat.le_of_ble_eq_true rfl) ?_
  obtain ⟨M1, hM1, h⟩ := bw_mlE h
  refine rw_m hM1.symm ?_
  refine rw_iconst (v := 0) dX2_load_8 (by decide) ?_
  refine rw_istore_n dX2_load_9 rfl (by decide) ?_
  exact rw_sub (rw_lc rfl (rw_lc rfl (rw_lc rfl rw_lz))) (th_X2_load_L10 hS1 bw_fu (0 : Int32) M1 h)
set_option maxRecDepth 20000 in
set_option maxHeartbeats 1000000 in
theorem th_X2_keepOnly_L8 {w : WE} {S1 : Nat} {v2 : Int32} {v3 : Int32} (hS1 : bw_iS S1) {out : Mem} : ∀ (n : Nat) (v4 : Int32) (M : Mem), f_X2_keepOnly_L8 S1 v2 v3 n v4 M = some out → RW w 0 0 0 0 0 cX2_keepOnly RX2 5 none (bw_Z w (bw_pv out)) 8 [(0, .ref (bw_ad w 1)), (1, .ref (bw_ad w S1)), (2, .int v2), (3, .int v3), (4, .int v4)] [] M := by
  intro n
  induction n with
  | zero => intro v4 M h; cases h
  | succ n ih =>
    intro v4 M h
    rw [f_X2_keepOnly_L8] at h
    refine rw_iload dX2_keepOnly_8 rfl ?_
    refine rw_aload_n dX2_keepOnly_10 rfl rfl ?_
    refine rw_get dX2_keepOnly_11 fl_RX2_40 (shS hS1) (klS hS1) rfl ?_
    refine rw_icmp_ge (tgt := 95) dX2_keepOnly_14 (by decide) (fun c2 => ?_) (fun c2 => ?_)
    · have h := bw_it c2 h
      have h := Option.some.inj h
      subst h
      exact rw_vret dX2_keepOnly_95 ⟨rfl, rfl⟩
    · have h := bw_if c2 h
      refine rw_aload_n dX2_keepOnly_17 rfl rfl ?_
      refine rw_get dX2_keepOnly_18 fl_RX2_49 (shS hS1) (klS hS1) rfl ?_
      refine rw_iload dX2_keepOnly_21 rfl ?_
      obtain ⟨g3, h⟩ := bw_gd h
      refine rw_iald dX2_keepOnly_23 (shS1 hS1) (klS1 hS1) (bw_in g3) ?_
      refine rw_iload_n dX2_keepOnly_24 rfl rfl ?_
      have key : RW w 0 0 0 0 0 cX2_keepOnly RX2 5 none (bw_Z w (bw_pv out)) 33 [(0, .ref (bw_ad w 1)), (1, .ref (bw_ad w S1)), (2, .int v2), (3, .int v3), (4, .int v4)] [.int (if (M (S1 + 1) v4.toNatClampNeg) < v2 then (0 : Int32) else (1 : Int32))] M := by
        refine rw_iload_n dX2_keepOnly_33 rfl rfl ?_
        refine rw_icmp_ne (tgt := 89) dX2_keepOnly_34 (by decide) (fun c5 => ?_) (fun c5 => ?_)
        · have h := bw_if c5 h
          refine rw_inc dX2_keepOnly_89 rfl (by decide) ?_
          refine rw_goto (tgt := 8) dX2_keepOnly_92 (by decide) ?_
          exact rw_sub (rw_lc rfl (rw_lc rfl (rw_lc rfl (rw_lc rfl (rw_lc rfl rw_lz))))) (ih (v4 + 1) M h)
        · have h := bw_it c5 h
          refine rw_aload_n dX2_keepOnly_37 rfl rfl ?_
          refine rw_get dX2_keepOnly_38 fl_RX2_11 (sh_plan w) (bw_kl (by decide)) rfl ?_
          refine rw_aload_n dX2_keepOnly_41 rfl rfl ?_
          refine rw_get dX2_keepOnly_42 fl_RX2_46 (sh_plan w) (bw_kl (by decide)) rfl ?_
          refine rw_aload_n dX2_keepOnly_45 rfl rfl ?_
          refine rw_get dX2_keepOnly_46 fl_RX2_49 (shS hS1) (klS hS1) rfl ?_
          refine rw_iload dX2_keepOnly_49 rfl ?_
          refine rw_iald dX2_keepOnly_51 (shS1 hS1) (klS1 hS1) (bw_in g3) ?_
          obtain ⟨g6, h⟩ := bw_gd h
          refine rw_iast dX2_keepOnly_52 (sh_p_high w) (bw_kl (by decide)) (bw_in g6) ?_
          obtain ⟨M7, hM7, h⟩ := bw_mlE h
          refine rw_m hM7.symm ?_
          refine rw_aload_n dX2_keepOnly_53 rfl rfl ?_
          refine rw_get dX2_keepOnly_54 fl_RX2_15 (sh_plan w) (bw_kl (by decide)) rfl ?_
          refine rw_aload_n dX2_keepOnly_57 rfl rfl ?_
          refine rw_get dX2_keepOnly_58 fl_RX2_46 (sh_plan w) (bw_kl (by decide)) rfl ?_
          refine rw_aload_n dX2_keepOnly_61 rfl rfl ?_
          refine rw_get dX2_keepOnly_62 fl_RX2_52 (shS hS1) (klS hS1) rfl ?_
          refine rw_iload dX2_keepOnly_65 rfl ?_
          refine rw_iald dX2_keepOnly_67 (shS2 hS1) (klS2 hS1) (bw_in g3) ?_
          obtain ⟨g8, h⟩ := bw_gd h
          refine rw_iast dX2_keepOnly_68 (sh_p_thick w) (bw_kl (by decide)) (bw_in g8) ?_
          obtain ⟨M9, hM9, h⟩ := bw_mlE h
          refine rw_m hM9.symm ?_
          refine rw_aload_n dX2_keepOnly_69 rfl rfl ?_
          refine rw_get dX2_keepOnly_70 fl_RX2_18 (sh_plan w) (bw_kl (by decide)) rfl ?_
          refine rw_aload_n dX2_keepOnly_73 rfl rfl ?_
          refine rw_get dX2_keepOnly_74 fl_RX2_46 (sh_plan w) (bw_kl (by decide)) rfl ?_
          refine rw_iconst (v := 0) dX2_keepOnly_77 (by decide) ?_
          obtain ⟨g10, h⟩ := bw_gd h
          refine rw_zast dX2_keepOnly_78 (sh_p_tied w) (bw_kl (by decide)) (bw_in g10) ?_
          obtain ⟨M11, hM11, h⟩ := bw_mlE h
          refine rw_m hM11.symm ?_
          refine rw_aload_n dX2_keepOnly_79 rfl rfl ?_
          refine rw_dup dX2_keepOnly_80 rfl ?_
          refine rw_get dX2_keepOnly_81 fl_RX2_46 (sh_plan w) (bw_kl (by decide)) rfl ?_
          refine rw_iconst (v := 1) dX2_keepOnly_84 (by decide) ?_
          refine rw_iadd dX2_keepOnly_85 ?_
          refine rw_puti dX2_keepOnly_86 fl_RX2_46 fp_2_0 (sh_plan w) (bw_kl (by decide)) (by decide) (fun _ => rfl) (fun _ => Nat.le_of_ble_eq_true rfl) ?_
          obtain ⟨M12, hM12, h⟩ := bw_mlE h
          refine rw_m hM12.symm ?_
          refine rw_inc dX2_keepOnly_89 rfl (by decide) ?_
          refine rw_goto (tgt := 8) dX2_keepOnly_92 (by decide) ?_
          exact rw_sub (rw_lc rfl (rw_lc rfl (rw_lc rfl (rw_lc rfl (rw_lc rfl rw_lz))))) (ih (v4 + 1) M12 h)
      refine rw_icmp_lt (tgt := 32) dX2_keepOnly_25 (by decide) (fun c4 => ?_) (fun c4 => ?_)
      · refine rw_iconst (v := 0) dX2_keepOnly_32 (by decide) ?_
        simp only [if_pos c4] at key
        exact rw_sub (rw_lc rfl (rw_lc rfl (rw_lc rfl (rw_lc rfl (rw_lc rfl rw_lz))))) key
      · refine rw_iconst (v := 1) dX2_keepOnly_28 (by decide) ?_
        refine rw_goto (tgt := 33) dX2_keepOnly_29 (by decide) ?_
        simp only [if_neg c4] at key
        exact rw_sub (rw_lc rfl (rw_lc rfl (rw_lc rfl (rw_lc rfl (rw_lc rfl rw_lz))))) key
set_option maxRecDepth 20000 in
set_option maxHeartbeats 1000000 in
theorem ct_X2_keepOnly {w : WE} {M : Mem} {S1 : Nat} {v2 : Int32} {v3 : Int32} (hS1 : bw_iS S1) {out : Mem} (h : f_X2_keepOnly M S1 v2 v3 = some out) : Ct w 0 yX2_keepOnly cX2_keepOnly 5 none [.ref (bw_ad w 1), .ref (bw_ad w S1), .int v2, .int v3] M (bw_pv out) := by
  refine Ct.of (own := RX2) rfl (by decide) (by intro v hv; simp only [List.mem_cons, List.not_mem_nil, or_false] at hv; rcases hv with rfl | rfl | rfl | rfl <;> first | rfl | exact bw_cat_rf _) (Nat.le_of_ble_eq_true rfl) ?_
  unfold f_X2_keepOnly at h
  show RW w 0 0 0 0 0 cX2_keepOnly RX2 5 none (bw_Z w (bw_pv out)) 0 [(0, .ref (bw_ad w 1)), (1, .ref (bw_ad w S1)), (2, .int v2), (3, .int v3)] [] M
  refine rw_aload_n dX2_keepOnly_0 rfl rfl ?_
  refine rw_iconst (v := 0) dX2_keepOnly_1 (by decide) ?_
  refine rw_puti dX2_keepOnly_2 fl_RX2_46 fp_2_0 (sh_plan w) (bw_kl (by decide)) (by decide) (fun _ => rfl) (fun _ => Nat.le_of_ble_eq_true rfl) ?_
  obtain ⟨M1, hM1, h⟩ := bw_mlE h
  refine rw_m hM1.symm ?_
  refine rw_iconst (v := 0) dX2_keepOnly_5 (by decide) ?_
  refine rw_istore dX2_keepOnly_6 (by decide) ?_
  exact rw_sub (rw_lc rfl (rw_lc rfl (rw_lc rfl (rw_lc rfl (rw_lc rfl rw_lz))))) (th_X2_keepOnly_L8 hS1 bw_fu (0 : Int32) M1 h)
set_option maxRecDepth 20000 in
set_option maxHeartbeats 1000000 in
theorem th_X2_insert_L28 {w : WE} {v1 : Int32} {v2 : Int32} {v3 : Int32} {out : Mem} : ∀ (n : Nat) (v4 : Int32) (M : Mem), f_X2_insert_L28 v1 v2 v3 n v4 M = some out → RW w 1 0 0 0 0 cX2_insert RX2 5 none (bw_Z w (bw_pv out)) 28 [(0, .ref (bw_ad w 1)), (1, .int v1), (2, .int v2), (3, .int v3), (4, .int v4)] [] M := by
  intro n
  induction n with
  | zero => intro v4 M h; cases h
  | succ n ih =>
    intro v4 M h
    rw [f_X2_insert_L28] at h
    refine rw_iload dX2_insert_28 rfl ?_
    refine rw_iload_n dX2_insert_30 rfl rfl ?_
    refine rw_icmp_le (tgt := 88) dX2_insert_31 (by decide) (fun c4 => ?_) (fun c4 => ?_)
    · have h := bw_it c4 h
      refine rw_aload_n dX2_insert_88 rfl rfl ?_
      refine rw_get dX2_insert_89 fl_RX2_11 (sh_plan w) (bw_kl (by decide)) rfl ?_
      refine rw_iload_n dX2_insert_92 rfl rfl ?_
      refine rw_iload_n dX2_insert_93 rfl rfl ?_
      obtain ⟨g5, h⟩ := bw_gd h
      refine rw_iast dX2_insert_94 (sh_p_high w) (bw_kl (by decide)) (bw_in g5) ?_
      obtain ⟨M6, hM6, h⟩ := bw_mlE h
      refine rw_m hM6.symm ?_
      refine rw_aload_n dX2_insert_95 rfl rfl ?_
      refine rw_get dX2_insert_96 fl_RX2_15 (sh_plan w) (bw_kl (by decide)) rfl ?_
      refine rw_iload_n dX2_insert_99 rfl rfl ?_
      refine rw_iload_n dX2_insert_100 rfl rfl ?_
      refine rw_iast dX2_insert_101 (sh_p_thick w) (bw_kl (by decide)) (bw_in g5) ?_
      obtain ⟨M7, hM7, h⟩ := bw_mlE h
      refine rw_m hM7.symm ?_
      refine rw_aload_n dX2_insert_102 rfl rfl ?_
      refine rw_get dX2_insert_103 fl_RX2_18 (sh_plan w) (bw_kl (by decide)) rfl ?_
      refine rw_iload_n dX2_insert_106 rfl rfl ?_
      refine rw_iconst (v := 0) dX2_insert_107 (by decide) ?_
      refine rw_zast dX2_insert_108 (sh_p_tied w) (bw_kl (by decide)) (bw_in g5) ?_
      obtain ⟨M8, hM8, h⟩ := bw_mlE h
      refine rw_m hM8.symm ?_
      refine rw_iload_n dX2_insert_109 rfl rfl ?_
      refine rw_if_le (tgt := 122) dX2_insert_110 (by decide) (fun c9 => ?_) (fun c9 => ?_)
      · have h := bw_it c9 h
        refine rw_aload_n dX2_insert_122 rfl rfl ?_
        refine rw_dup dX2_insert_123 rfl ?_
        refine rw_get dX2_insert_124 fl_RX2_46 (sh_plan w) (bw_kl (by decide)) rfl ?_
        refine rw_iconst (v := 1) dX2_insert_127 (by decide) ?_
        refine rw_iadd dX2_insert_128 ?_
        refine rw_puti dX2_insert_129 fl_RX2_46 fp_2_0 (sh_plan w) (bw_kl (by decide)) (by decide) (fun _ => rfl) (fun _ => Nat.le_of_ble_eq_true rfl) ?_
        obtain ⟨M10, hM10, h⟩ := bw_mlE h
        refine rw_m hM10.symm ?_
        have h := Option.some.inj h
        subst h
        exact rw_vret dX2_insert_132 ⟨rfl, rfl⟩
      · have h := bw_if c9 h
        refine rw_aload_n dX2_insert_113 rfl rfl ?_
        refine rw_get dX2_insert_114 fl_RX2_18 (sh_plan w) (bw_kl (by decide)) rfl ?_
        refine rw_iload_n dX2_insert_117 rfl rfl ?_
        refine rw_iconst (v := 1) dX2_insert_118 (by decide) ?_
        refine rw_isub dX2_insert_119 ?_
        refine rw_iconst (v := 0) dX2_insert_120 (by decide) ?_
        obtain ⟨g11, h⟩ := bw_gd h
        refine rw_zast dX2_insert_121 (sh_p_tied w) (bw_kl (by decide)) (bw_in g11) ?_
        obtain ⟨M12, hM12, h⟩ := bw_mlE h
        refine rw_m hM12.symm ?_
        refine rw_aload_n dX2_insert_122 rfl rfl ?_
        refine rw_dup dX2_insert_123 rfl ?_
        refine rw_get dX2_insert_124 fl_RX2_46 (sh_plan w) (bw_kl (by decide)) rfl ?_
        refine rw_iconst (v := 1) dX2_insert_127 (by decide) ?_
        refine rw_iadd dX2_insert_128 ?_
        refine rw_puti dX2_insert_129 fl_RX2_46 fp_2_0 (sh_plan w) (bw_kl (by decide)) (by decide) (fun _ => rfl) (fun _ => Nat.le_of_ble_eq_true rfl) ?_
        obtain ⟨M13, hM13, h⟩ := bw_mlE h
        refine rw_m hM13.symm ?_
        have h := Option.some.inj h
        subst h
        exact rw_vret dX2_insert_132 ⟨rfl, rfl⟩
    · have h := bw_if c4 h
      refine rw_aload_n dX2_insert_34 rfl rfl ?_
      refine rw_get dX2_insert_35 fl_RX2_11 (sh_plan w) (bw_kl (by decide)) rfl ?_
      refine rw_iload dX2_insert_38 rfl ?_
      refine rw_aload_n dX2_insert_40 rfl rfl ?_
      refine rw_get dX2_insert_41 fl_RX2_11 (sh_plan w) (bw_kl (by decide)) rfl ?_
      refine rw_iload dX2_insert_44 rfl ?_
      refine rw_iconst (v := 1) dX2_insert_46 (by decide) ?_
      refine rw_isub dX2_insert_47 ?_
      obtain ⟨g14, h⟩ := bw_gd h
      refine rw_iald dX2_insert_48 (sh_p_high w) (bw_kl (by decide)) (bw_in g14) ?_
      obtain ⟨g15, h⟩ := bw_gd h
      refine rw_iast dX2_insert_49 (sh_p_high w) (bw_kl (by decide)) (bw_in g15) ?_
      obtain ⟨M16, hM16, h⟩ := bw_mlE h
      refine rw_m hM16.symm ?_
      refine rw_aload_n dX2_insert_50 rfl rfl ?_
      refine rw_get dX2_insert_51 fl_RX2_15 (sh_plan w) (bw_kl (by decide)) rfl ?_
      refine rw_iload dX2_insert_54 rfl ?_
      refine rw_aload_n dX2_insert_56 rfl rfl ?_
      refine rw_get dX2_insert_57 fl_RX2_15 (sh_plan w) (bw_kl (by decide)) rfl ?_
      refine rw_iload dX2_insert_60 rfl ?_
      refine rw_iconst (v := 1) dX2_insert_62 (by decide) ?_
      refine rw_isub dX2_insert_63 ?_
      refine rw_iald dX2_insert_64 (sh_p_thick w) (bw_kl (by decide)) (bw_in g14) ?_
      refine rw_iast dX2_insert_65 (sh_p_thick w) (bw_kl (by decide)) (bw_in g15) ?_
      obtain ⟨M17, hM17, h⟩ := bw_mlE h
      refine rw_m hM17.symm ?_
      refine rw_aload_n dX2_insert_66 rfl rfl ?_
      refine rw_get dX2_insert_67 fl_RX2_18 (sh_plan w) (bw_kl (by decide)) rfl ?_
      refine rw_iload dX2_insert_70 rfl ?_
      refine rw_aload_n dX2_insert_72 rfl rfl ?_
      refine rw_get dX2_insert_73 fl_RX2_18 (sh_plan w) (bw_kl (by decide)) rfl ?_
      refine rw_iload dX2_insert_76 rfl ?_
      refine rw_iconst (v := 1) dX2_insert_78 (by decide) ?_
      refine rw_isub dX2_insert_79 ?_
      refine rw_zald dX2_insert_80 (sh_p_tied w) (bw_kl (by decide)) (bw_in g14) ?_
      refine rw_zast dX2_insert_81 (sh_p_tied w) (bw_kl (by decide)) (bw_in g15) ?_
      obtain ⟨M18, hM18, h⟩ := bw_mlE h
      refine rw_m hM18.symm ?_
      refine rw_dec dX2_insert_82 rfl (by decide) ?_
      refine rw_goto (tgt := 28) dX2_insert_85 (by decide) ?_
      exact rw_sub (rw_lc rfl (rw_lc rfl (rw_lc rfl (rw_lc rfl (rw_lc rfl rw_lz))))) (ih (v4 - 1) M18 h)
set_option maxRecDepth 20000 in
set_option maxHeartbeats 1000000 in
theorem ct_X2_insert {w : WE} {M : Mem} {v1 : Int32} {v2 : Int32} {v3 : Int32} {out : Mem} (h : f_X2_insert M v1 v2 v3 = some out) : Ct w 1 yX2_insert cX2_insert 5 none [.ref (bw_ad w 1), .int v1, .int v2, .int v3] M (bw_pv out) := by
  refine Ct.of (own := RX2) rfl (by decide) (by intro v hv; simp only [List.mem_cons, List.not_mem_nil, or_false] at hv; rcases hv with rfl | rfl | rfl | rfl <;> first | rfl | exact bw_cat_rf _) (Nat.le_of_ble_eq_true rfl) ?_
  unfold f_X2_insert at h
  show RW w 1 0 0 0 0 cX2_insert RX2 5 none (bw_Z w (bw_pv out)) 0 [(0, .ref (bw_ad w 1)), (1, .int v1), (2, .int v2), (3, .int v3)] [] M
  refine rw_aload_n dX2_insert_0 rfl rfl ?_
  refine rw_get dX2_insert_1 fl_RX2_46 (sh_plan w) (bw_kl (by decide)) rfl ?_
  refine rw_bipush (v := 24) dX2_insert_4 (by decide) ?_
  refine rw_icmp_ge (tgt := 21) dX2_insert_6 (by decide) (fun c1 => ?_) (fun c1 => ?_)
  · have h := bw_it c1 h
    have h := Option.some.inj h
    subst h
    exact rw_vret dX2_insert_21 ⟨rfl, rfl⟩
  · have h := bw_if c1 h
    refine rw_iload_n dX2_insert_9 rfl rfl ?_
    refine rw_iconst (v := 0) dX2_insert_10 (by decide) ?_
    refine rw_aload_n dX2_insert_11 rfl rfl ?_
    refine rw_get dX2_insert_12 fl_RX2_46 (sh_plan w) (bw_kl (by decide)) rfl ?_
    refine rw_callN3 dX2_insert_15 nx_RX2_95 ms_X9_isWithin (ct_X9_isWithin rfl) (Nat.le_of_ble_eq_true rfl) (Nat.le_of_ble_eq_true rfl) (bw_kkz (fun z2 => ?_))
    refine rw_if_ne (tgt := 22) dX2_insert_18 (by decide) (fun c3 => ?_) (fun c3 => ?_)
    · have h := bw_if c3 h
      refine rw_aload_n dX2_insert_22 rfl rfl ?_
      refine rw_get dX2_insert_23 fl_RX2_46 (sh_plan w) (bw_kl (by decide)) rfl ?_
      refine rw_istore dX2_insert_26 (by decide) ?_
      exact rw_sub (rw_lc rfl (rw_lc rfl (rw_lc rfl (rw_lc rfl (rw_lc rfl rw_lz))))) (th_X2_insert_L28 bw_fu (M 1 0) M h)
    · have h := bw_it c3 h
      have h := Option.some.inj h
      subst h
      exact rw_vret dX2_insert_21 ⟨rfl, rfl⟩
set_option maxRecDepth 20000 in
set_option maxHeartbeats 1000000 in
theorem th_X2_setFor_L13 {w : WE} {M : Mem} {v1 : Int32} {out : Int32} : ∀ (n : Nat) (v2 : Int32) (v3 : Int32), f_X2_setFor_L13 M v1 n v2 v3 = some out → RW w 0 0 0 0 0 cX2_setFor RX2 4 (some .int) (bw_Z w (bw_pi (out) M)) 13 [(0, .ref (bw_ad w 1)), (1, .int v1), (2, .int v2), (3, .int v3)] [] M := by
  intro n
  induction n with
  | zero => intro v2 v3 h; cases h
  | succ n ih =>
    intro v2 v3 h
    rw [f_X2_setFor_L13] at h
    refine rw_iload_n dX2_setFor_13 rfl rfl ?_
    refine rw_aload_n dX2_setFor_14 rfl rfl ?_
    refine rw_get dX2_setFor_15 fl_RX2_77 (sh_plan w) (bw_kl (by decide)) rfl ?_
    refine rw_icmp_ge (tgt := 58) dX2_setFor_18 (by decide) (fun c2 => ?_) (fun c2 => ?_)
    · have h := bw_it c2 h
      refine rw_iload_n dX2_setFor_58 rfl rfl ?_
      have h := Option.some.inj h
      subst h
      exact rw_iret dX2_setFor_59 ⟨rfl, rfl⟩
    · have h := bw_if c2 h
      refine rw_aload_n dX2_setFor_21 rfl rfl ?_
      refine rw_get dX2_setFor_22 fl_RX2_22 (sh_plan w) (bw_kl (by decide)) rfl ?_
      refine rw_iload_n dX2_setFor_25 rfl rfl ?_
      obtain ⟨g3, h⟩ := bw_gd h
      refine rw_iald dX2_setFor_26 (sh_p_heights w) (bw_kl (by decide)) (bw_in g3) ?_
      refine rw_iload_n dX2_setFor_27 rfl rfl ?_
      have key : RW w 0 0 0 0 0 cX2_setFor RX2 4 (some .int) (bw_Z w (bw_pi (out) M)) 52 [(0, .ref (bw_ad w 1)), (1, .int v1), (2, .int (if (M 5 v3.toNatClampNeg) < v1 then v2 else (if v2 = 0 then M 5 v3.toNatClampNeg else (if v2 ≤ (M 5 v3.toNatClampNeg) then v2 else M 5 v3.toNatClampNeg)))), (3, .int v3)] [] M := by
        refine rw_inc dX2_setFor_52 rfl (by decide) ?_
        refine rw_goto (tgt := 13) dX2_setFor_55 (by decide) ?_
        exact rw_sub (rw_lc rfl (rw_lc rfl (rw_lc rfl (rw_lc rfl rw_lz)))) (ih (if (M 5 v3.toNatClampNeg) < v1 then v2 else (if v2 = 0 then M 5 v3.toNatClampNeg else (if v2 ≤ (M 5 v3.toNatClampNeg) then v2 else M 5 v3.toNatClampNeg))) (v3 + 1) h)
      refine rw_icmp_lt (tgt := 52) dX2_setFor_28 (by decide) (fun c4 => ?_) (fun c4 => ?_)
      · simp only [if_pos c4] at key
        exact rw_sub (rw_lc rfl (rw_lc rfl (rw_lc rfl (rw_lc rfl rw_lz)))) key
      · refine rw_iload_n dX2_setFor_31 rfl rfl ?_
        refine rw_if_eq (tgt := 45) dX2_setFor_32 (by decide) (fun c5 => ?_) (fun c5 => ?_)
        · refine rw_aload_n dX2_setFor_45 rfl rfl ?_
          refine rw_get dX2_setFor_46 fl_RX2_22 (sh_plan w) (bw_kl (by decide)) rfl ?_
          refine rw_iload_n dX2_setFor_49 rfl rfl ?_
          refine rw_iald dX2_setFor_50 (sh_p_heights w) (bw_kl (by decide)) (bw_in g3) ?_
          refine rw_istore_n dX2_setFor_51 rfl (by decide) ?_
          simp only [if_neg c4, if_pos c5] at key
          exact rw_sub (rw_lc rfl (rw_lc rfl (rw_lc rfl (rw_lc rfl rw_lz)))) key
        · refine rw_aload_n dX2_setFor_35 rfl rfl ?_
          refine rw_get dX2_setFor_36 fl_RX2_22 (sh_plan w) (bw_kl (by decide)) rfl ?_
          refine rw_iload_n dX2_setFor_39 rfl rfl ?_
          refine rw_iald dX2_setFor_40 (sh_p_heights w) (bw_kl (by decide)) (bw_in g3) ?_
          refine rw_iload_n dX2_setFor_41 rfl rfl ?_
          refine rw_icmp_ge (tgt := 52) dX2_setFor_42 (by decide) (fun c6 => ?_) (fun c6 => ?_)
          · simp only [if_neg c4, if_neg c5, if_pos c6] at key
            exact rw_sub (rw_lc rfl (rw_lc rfl (rw_lc rfl (rw_lc rfl rw_lz)))) key
          · refine rw_aload_n dX2_setFor_45 rfl rfl ?_
            refine rw_get dX2_setFor_46 fl_RX2_22 (sh_plan w) (bw_kl (by decide)) rfl ?_
            refine rw_iload_n dX2_setFor_49 rfl rfl ?_
            refine rw_iald dX2_setFor_50 (sh_p_heights w) (bw_kl (by decide)) (bw_in g3) ?_
            refine rw_istore_n dX2_setFor_51 rfl (by decide) ?_
            simp only [if_neg c4, if_neg c5, if_neg c6] at key
            exact rw_sub (rw_lc rfl (rw_lc rfl (rw_lc rfl (rw_lc rfl rw_lz)))) key
set_option maxRecDepth 20000 in
set_option maxHeartbeats 1000000 in
theorem ct_X2_setFor {w : WE} {M : Mem} {v1 : Int32} {out : Int32} (h : f_X2_setFor M v1 = some out) : Ct w 0 yX2_setFor cX2_setFor 4 (some .int) [.ref (bw_ad w 1), .int v1] M (bw_pi (out) M) := by
  refine Ct.of (own := RX2) rfl (by decide) (by intro v hv; simp only [List.mem_cons, List.not_mem_nil, or_false] at hv; rcases hv with rfl | rfl <;> first | rfl | exact bw_cat_rf _) (Nat.le_of_ble_eq_true rfl) ?_
  unfold f_X2_setFor at h
  show RW w 0 0 0 0 0 cX2_setFor RX2 4 (some .int) (bw_Z w (bw_pi (out) M)) 0 [(0, .ref (bw_ad w 1)), (1, .int v1)] [] M
  refine rw_aload_n dX2_setFor_0 rfl rfl ?_
  refine rw_get dX2_setFor_1 fl_RX2_77 (sh_plan w) (bw_kl (by decide)) rfl ?_
  refine rw_if_ne (tgt := 9) dX2_setFor_4 (by decide) (fun c1 => ?_) (fun c1 => ?_)
  · have h := bw_if c1 h
    refine rw_iconst (v := 0) dX2_setFor_9 (by decide) ?_
    refine rw_istore_n dX2_setFor_10 rfl (by decide) ?_
    refine rw_iconst (v := 0) dX2_setFor_11 (by decide) ?_
    refine rw_istore_n dX2_setFor_12 rfl (by decide) ?_
    exact rw_sub (rw_lc rfl (rw_lc rfl (rw_lc rfl (rw_lc rfl rw_lz)))) (th_X2_setFor_L13 bw_fu (0 : Int32) (0 : Int32) h)
  · have h := bw_it c1 h
    refine rw_iload_n dX2_setFor_7 rfl rfl ?_
    have h := Option.some.inj h
    subst h
    exact rw_iret dX2_setFor_8 ⟨rfl, rfl⟩
set_option maxRecDepth 20000 in
set_option maxHeartbeats 1000000 in
theorem ct_X2_endsLine {w : WE} {M : Mem} {v1 : Int32} {out : Int32} (h : f_X2_endsLine M v1 = some out) : Ct w 0 yX2_endsLine cX2_endsLine 2 (some .boolean) [.ref (bw_ad w 1), .int v1] M (bw_pz (out) M) := by
  refine Ct.of (own := RX2) rfl (by decide) (by intro v hv; simp only [List.mem_cons, List.not_mem_nil, or_false] at hv; rcases hv with rfl | rfl <;> first | rfl | exact bw_cat_rf _) (Nat.le_of_ble_eq_true rfl) ?_
  unfold f_X2_endsLine at h
  show RW w 0 0 0 0 0 cX2_endsLine RX2 2 (some .boolean) (bw_Z w (bw_pz (out) M)) 0 [(0, .ref (bw_ad w 1)), (1, .int v1)] [] M
  refine rw_iload_n dX2_endsLine_0 rfl rfl ?_
  refine rw_iconst (v := 1) dX2_endsLine_1 (by decide) ?_
  refine rw_iadd dX2_endsLine_2 ?_
  refine rw_aload_n dX2_endsLine_3 rfl rfl ?_
  refine rw_get dX2_endsLine_4 fl_RX2_46 (sh_plan w) (bw_kl (by decide)) rfl ?_
  refine rw_icmp_ge (tgt := 19) dX2_endsLine_7 (by decide) (fun c1 => ?_) (fun c1 => ?_)
  · have h := bw_it c1 h
    refine rw_iconst (v := 1) dX2_endsLine_19 (by decide) ?_
    refine rw_goto (tgt := 24) dX2_endsLine_20 (by decide) ?_
    have h := Option.some.inj h
    subst h
    exact rw_zret dX2_endsLine_24 bw_n1 ⟨rfl, rfl, bw_n1⟩
  · have h := bw_if c1 h
    refine rw_aload_n dX2_endsLine_10 rfl rfl ?_
    refine rw_get dX2_endsLine_11 fl_RX2_18 (sh_plan w) (bw_kl (by decide)) rfl ?_
    refine rw_iload_n dX2_endsLine_14 rfl rfl ?_
    obtain ⟨g2, h⟩ := bw_gd h
    refine rw_zald dX2_endsLine_15 (sh_p_tied w) (bw_kl (by decide)) (bw_in g2) ?_
    have key : RW w 0 0 0 0 0 cX2_endsLine RX2 2 (some .boolean) (bw_Z w (bw_pz (out) M)) 24 [] [.int (if (M 4 v1.toNatClampNeg) = 0 then (1 : Int32) else (0 : Int32))] M := by
      have h := Option.some.inj h
      subst h
      exact rw_zret dX2_endsLine_24 (by (repeat' split) <;> first | exact bw_n0 | exact bw_n1) ⟨rfl, rfl, (by (repeat' split) <;> first | exact bw_n0 | exact bw_n1)⟩
    refine rw_if_ne (tgt := 23) dX2_endsLine_16 (by decide) (fun c3 => ?_) (fun c3 => ?_)
    · refine rw_iconst (v := 0) dX2_endsLine_23 (by decide) ?_
      simp only [if_neg c3] at key
      exact rw_sub rw_lz key
    · refine rw_iconst (v := 1) dX2_endsLine_19 (by decide) ?_
      refine rw_goto (tgt := 24) dX2_endsLine_20 (by decide) ?_
      simp only [if_pos c3] at key
      exact rw_sub rw_lz key
set_option maxRecDepth 20000 in
set_option maxHeartbeats 1000000 in
theorem ct_X9_held {w : WE} {M : Mem} {v0 : Int32} {v1 : Int32} {v2 : Int32} {out : Int32} (h : f_X9_held v0 v1 v2 = out) : Ct w 2 yX9_held cX9_held 3 (some .int) [.int v0, .int v1, .int v2] M (bw_pi (out) M) := by
  refine Ct.of (own := RX9) rfl (by decide) (by intro v hv; simp only [List.mem_cons, List.not_mem_nil, or_false] at hv; rcases hv with rfl | rfl | rfl <;> first | rfl | exact bw_cat_rf _) (Nat.le_of_ble_eq_true rfl) ?_
  unfold f_X9_held at h
  show RW w 2 0 0 0 0 cX9_held RX9 3 (some .int) (bw_Z w (bw_pi (out) M)) 0 [(0, .int v0), (1, .int v1), (2, .int v2)] [] M
  refine rw_iload_n dX9_held_0 rfl rfl ?_
  refine rw_iload_n dX9_held_1 rfl rfl ?_
  refine rw_iload_n dX9_held_2 rfl rfl ?_
  refine rw_mmin dX9_held_3 ln_RX9_122 mm_min_s mm_i mm_min_c (Nat.le_of_ble_eq_true rfl) (Nat.le_of_ble_eq_true rfl) ?_
  refine rw_mmax dX9_held_6 ln_RX9_411 mm_max_s mm_i mm_max_c (Nat.le_of_ble_eq_true rfl) (Nat.le_of_ble_eq_true rfl) ?_
  subst h
  exact rw_iret dX9_held_9 ⟨rfl, rfl⟩
set_option maxRecDepth 20000 in
set_option maxHeartbeats 1000000 in
theorem ct_X2_priceOf {w : WE} {M : Mem} {v1 : Int32} {v2 : Int32} {out : Int32 × Mem} (h : f_X2_priceOf M v1 v2 = some out) : Ct w 3 yX2_priceOf cX2_priceOf 4 (some .int) [.ref (bw_ad w 1), .int v1, .int v2] M (bw_pi (out.1) out.2) := by
  refine Ct.of (own := RX2) rfl (by decide) (by intro v hv; simp only [List.mem_cons, List.not_mem_nil, or_false] at hv; rcases hv with rfl | rfl | rfl <;> first | rfl | exact bw_cat_rf _) (Nat.le_of_ble_eq_true rfl) ?_
  unfold f_X2_priceOf at h
  show RW w 3 0 0 0 0 cX2_priceOf RX2 4 (some .int) (bw_Z w (bw_pi (out.1) out.2)) 0 [(0, .ref (bw_ad w 1)), (1, .int v1), (2, .int v2)] [] M
  refine rw_aload_n dX2_priceOf_0 rfl rfl ?_
  refine rw_get dX2_priceOf_1 fl_RX2_70 (sh_plan w) (bw_kl (by decide)) rfl ?_
  refine rw_ifnonnullL (tgt := 14) dX2_priceOf_4 (by decide) (fun c1 => ?_) (fun c1 => ?_)
  · have h := bw_if c1 h
    refine rw_iload_n dX2_priceOf_14 rfl rfl ?_
    refine rw_bipush (v := 25) dX2_priceOf_15 (by decide) ?_
    refine rw_imul dX2_priceOf_17 ?_
    refine rw_iload_n dX2_priceOf_18 rfl rfl ?_
    refine rw_iadd dX2_priceOf_19 ?_
    refine rw_istore_n dX2_priceOf_20 rfl (by decide) ?_
    refine rw_iload_n dX2_priceOf_21 rfl rfl ?_
    refine rw_iconst (v := 0) dX2_priceOf_22 (by decide) ?_
    refine rw_aload_n dX2_priceOf_23 rfl rfl ?_
    refine rw_get dX2_priceOf_24 fl_RX2_25 (sh_plan w) (bw_kl (by decide)) rfl ?_
    refine rw_alen (v := 2500) dX2_priceOf_27 (sh_p_price w) (by decide) (bw_kl (by decide)) (by decide) ?_
    refine rw_iconst (v := 1) dX2_priceOf_28 (by decide) ?_
    refine rw_isub dX2_priceOf_29 ?_
    refine rw_callN3 dX2_priceOf_30 nx_RX2_95 ms_X9_isWithin (ct_X9_isWithin rfl) (Nat.le_of_ble_eq_true rfl) (Nat.le_of_ble_eq_true rfl) (bw_kkz (fun z2 => ?_))
    refine rw_if_ne (tgt := 38) dX2_priceOf_33 (by decide) (fun c3 => ?_) (fun c3 => ?_)
    · have h := bw_if c3 h
      refine rw_aload_n dX2_priceOf_38 rfl rfl ?_
      refine rw_get dX2_priceOf_39 fl_RX2_25 (sh_plan w) (bw_kl (by decide)) rfl ?_
      refine rw_iload_n dX2_priceOf_42 rfl rfl ?_
      obtain ⟨g4, h⟩ := bw_gd h
      refine rw_iald dX2_priceOf_43 (sh_p_price w) (bw_kl (by decide)) (bw_in g4) ?_
      refine rw_if_ge (tgt := 73) dX2_priceOf_44 (by decide) (fun c5 => ?_) (fun c5 => ?_)
      · have h := bw_it c5 h
        refine rw_aload_n dX2_priceOf_73 rfl rfl ?_
        refine rw_get dX2_priceOf_74 fl_RX2_25 (sh_plan w) (bw_kl (by decide)) rfl ?_
        refine rw_iload_n dX2_priceOf_77 rfl rfl ?_
        refine rw_iald dX2_priceOf_78 (sh_p_price w) (bw_kl (by decide)) (bw_in g4) ?_
        have h := Option.some.inj h
        subst h
        exact rw_iret dX2_priceOf_79 ⟨rfl, rfl⟩
      · have h := bw_if c5 h
        refine rw_aload_n dX2_priceOf_47 rfl rfl ?_
        refine rw_get dX2_priceOf_48 fl_RX2_25 (sh_plan w) (bw_kl (by decide)) rfl ?_
        refine rw_iload_n dX2_priceOf_51 rfl rfl ?_
        refine rw_aload_n dX2_priceOf_52 rfl rfl ?_
        refine rw_get dX2_priceOf_53 fl_RX2_70 (sh_plan w) (bw_kl (by decide)) rfl ?_
        refine rw_iload_n dX2_priceOf_56 rfl rfl ?_
        refine rw_iload_n dX2_priceOf_57 rfl rfl ?_
        refine rw_aload_n dX2_priceOf_58 rfl rfl ?_
        refine rw_get dX2_priceOf_59 fl_RX2_61 (sh_plan w) (bw_kl (by decide)) rfl ?_
        obtain ⟨q6, hq6, h⟩ := bw_bd h
        obtain ⟨g7, h⟩ := bw_gd h
        refine rw_callL3 dX2_priceOf_62 ln_RX2_128 mv_X1_gives g7 (ct_X1_gives hq6) (Nat.le_of_ble_eq_true rfl) (Nat.le_of_ble_eq_true rfl) (bw_kki ?_)
        refine rw_iconst (v := 0) dX2_priceOf_65 (by decide) ?_
        refine rw_sipush (v := 9999) dX2_priceOf_66 (by decide) ?_
        refine rw_callN3 dX2_priceOf_69 nx_RX2_134 ms_X9_held (ct_X9_held rfl) (Nat.le_of_ble_eq_true rfl) (Nat.le_of_ble_eq_true rfl) (bw_kki ?_)
        refine rw_iast dX2_priceOf_72 (sh_p_price w) (bw_kl (by decide)) (bw_in g4) ?_
        obtain ⟨M8, hM8, h⟩ := bw_mlE h
        refine rw_m hM8.symm ?_
        refine rw_aload_n dX2_priceOf_73 rfl rfl ?_
        refine rw_get dX2_priceOf_74 fl_RX2_25 (sh_plan w) (bw_kl (by decide)) rfl ?_
        refine rw_iload_n dX2_priceOf_77 rfl rfl ?_
        refine rw_iald dX2_priceOf_78 (sh_p_price w) (bw_kl (by decide)) (bw_in g4) ?_
        have h := Option.some.inj h
        subst h
        exact rw_iret dX2_priceOf_79 ⟨rfl, rfl⟩
    · have h := bw_it c3 h
      refine rw_iconst (v := 0) dX2_priceOf_36 (by decide) ?_
      have h := Option.some.inj h
      subst h
      exact rw_iret dX2_priceOf_37 ⟨rfl, rfl⟩
  · have h := bw_it c1 h
    refine rw_iload_n dX2_priceOf_7 rfl rfl ?_
    refine rw_aload_n dX2_priceOf_8 rfl rfl ?_
    refine rw_get dX2_priceOf_9 fl_RX2_61 (sh_plan w) (bw_kl (by decide)) rfl ?_
    refine rw_iadd dX2_priceOf_12 ?_
    have h := Option.some.inj h
    subst h
    exact rw_iret dX2_priceOf_13 ⟨rfl, rfl⟩
set_option maxRecDepth 20000 in
set_option maxHeartbeats 1000000 in
theorem th_X2_priceFrom_L24 {w : WE} {v1 : Int32} {out : Mem} : ∀ (n : Nat) (v2 : Int32) (v3 : Int32) (v4 : Int32) (M : Mem), f_X2_priceFrom_L24 v1 n v2 v3 v4 M = some out → RW w 4 0 0 0 0 cX2_priceFrom RX2 7 none (bw_Z w (bw_pv out)) 24 [(0, .ref (bw_ad w 1)), (1, .int v1), (2, .int v2), (3, .int v3), (4, .int v4)] [] M := by
  intro n
  induction n with
  | zero => intro v2 v3 v4 M h; cases h
  | succ n ih =>
    intro v2 v3 v4 M h
    rw [f_X2_priceFrom_L24] at h
    refine rw_iload dX2_priceFrom_24 rfl ?_
    refine rw_aload_n dX2_priceFrom_26 rfl rfl ?_
    refine rw_get dX2_priceFrom_27 fl_RX2_46 (sh_plan w) (bw_kl (by decide)) rfl ?_
    refine rw_icmp_ge (tgt := 165) dX2_priceFrom_30 (by decide) (fun c4 => ?_) (fun c4 => ?_)
    · have h := bw_it c4 h
      have h := Option.some.inj h
      subst h
      exact rw_vret dX2_priceFrom_165 ⟨rfl, rfl⟩
    · have h := bw_if c4 h
      refine rw_iload_n dX2_priceFrom_33 rfl rfl ?_
      refine rw_aload_n dX2_priceFrom_34 rfl rfl ?_
      refine rw_get dX2_priceFrom_35 fl_RX2_15 (sh_plan w) (bw_kl (by decide)) rfl ?_
      refine rw_iload dX2_priceFrom_38 rfl ?_
      obtain ⟨g5, h⟩ := bw_gd h
      refine rw_iald dX2_priceFrom_40 (sh_p_thick w) (bw_kl (by decide)) (bw_in g5) ?_
      refine rw_iadd dX2_priceFrom_41 ?_
      refine rw_istore_n dX2_priceFrom_42 rfl (by decide) ?_
      refine rw_iload_n dX2_priceFrom_43 rfl rfl ?_
      refine rw_aload_n dX2_priceFrom_44 rfl rfl ?_
      refine rw_get dX2_priceFrom_45 fl_RX2_11 (sh_plan w) (bw_kl (by decide)) rfl ?_
      refine rw_iload dX2_priceFrom_48 rfl ?_
      refine rw_iald dX2_priceFrom_50 (sh_p_high w) (bw_kl (by decide)) (bw_in g5) ?_
      refine rw_mmax dX2_priceFrom_51 ln_RX2_111 mm_max_s mm_i mm_max_c (Nat.le_of_ble_eq_true rfl) (Nat.le_of_ble_eq_true rfl) ?_
      obtain ⟨x6, hx6, h⟩ := bw_mlE h
      refine rw_ti hx6 ?_
      refine rw_istore_n dX2_priceFrom_54 rfl (by decide) ?_
      refine rw_iload_n dX2_priceFrom_55 rfl rfl ?_
      refine rw_aload_n dX2_priceFrom_56 rfl rfl ?_
      refine rw_get dX2_priceFrom_57 fl_RX2_57 (sh_plan w) (bw_kl (by decide)) rfl ?_
      refine rw_icmp_le (tgt := 64) dX2_priceFrom_60 (by decide) (fun c7 => ?_) (fun c7 => ?_)
      · have h := bw_it c7 h
        refine rw_aload_n dX2_priceFrom_64 rfl rfl ?_
        refine rw_iload_n dX2_priceFrom_65 rfl rfl ?_
        obtain ⟨q8, hq8, h⟩ := bw_bd h
        refine rw_callV1 dX2_priceFrom_66 ln_RX2_117 mv_X2_setFor (sh_plan w) (bw_kl (by decide)) (ct_X2_setFor hq8) (Nat.le_of_ble_eq_true rfl) (Nat.le_of_ble_eq_true rfl) (bw_kki ?_)
        refine rw_istore dX2_priceFrom_69 (by decide) ?_
        refine rw_aload_n dX2_priceFrom_71 rfl rfl ?_
        refine rw_iload dX2_priceFrom_72 rfl ?_
        obtain ⟨q9, hq9, h⟩ := bw_bd h
        refine rw_callV1 dX2_priceFrom_74 ln_RX2_121 mv_X2_endsLine (sh_plan w) (bw_kl (by decide)) (ct_X2_endsLine hq9) (Nat.le_of_ble_eq_true rfl) (Nat.le_of_ble_eq_true rfl) (bw_kkz (fun z10 => ?_))
        refine rw_if_eq (tgt := 159) dX2_priceFrom_77 (by decide) (fun c11 => ?_) (fun c11 => ?_)
        · have h := bw_it c11 h
          refine rw_inc dX2_priceFrom_159 rfl (by decide) ?_
          refine rw_goto (tgt := 24) dX2_priceFrom_162 (by decide) ?_
          exact rw_sub (rw_lc rfl (rw_lc rfl (rw_lc rfl (rw_lc rfl (rw_lc rfl rw_lz))))) (ih (v2 + (M 3 v4.toNatClampNeg)) x6 (v4 + 1) M h)
        · have h := bw_if c11 h
          refine rw_iload dX2_priceFrom_80 rfl ?_
          refine rw_if_le (tgt := 159) dX2_priceFrom_82 (by decide) (fun c12 => ?_) (fun c12 => ?_)
          · have h := bw_it c12 h
            refine rw_inc dX2_priceFrom_159 rfl (by decide) ?_
            refine rw_goto (tgt := 24) dX2_priceFrom_162 (by decide) ?_
            exact rw_sub (rw_lc rfl (rw_lc rfl (rw_lc rfl (rw_lc rfl (rw_lc rfl rw_lz))))) (ih (v2 + (M 3 v4.toNatClampNeg)) x6 (v4 + 1) M h)
          · have h := bw_if c12 h
            refine rw_aload_n dX2_priceFrom_85 rfl rfl ?_
            refine rw_get dX2_priceFrom_86 fl_RX2_28 (sh_plan w) (bw_kl (by decide)) rfl ?_
            refine rw_iload dX2_priceFrom_89 rfl ?_
            refine rw_iconst (v := 1) dX2_priceFrom_91 (by decide) ?_
            refine rw_iadd dX2_priceFrom_92 ?_
            obtain ⟨g13, h⟩ := bw_gd h
            refine rw_iald dX2_priceFrom_93 (sh_p_least w) (bw_kl (by decide)) (bw_in g13) ?_
            refine rw_if_lt (tgt := 159) dX2_priceFrom_94 (by decide) (fun c14 => ?_) (fun c14 => ?_)
            · have h := bw_it c14 h
              refine rw_inc dX2_priceFrom_159 rfl (by decide) ?_
              refine rw_goto (tgt := 24) dX2_priceFrom_162 (by decide) ?_
              exact rw_sub (rw_lc rfl (rw_lc rfl (rw_lc rfl (rw_lc rfl (rw_lc rfl rw_lz))))) (ih (v2 + (M 3 v4.toNatClampNeg)) x6 (v4 + 1) M h)
            · have h := bw_if c14 h
              refine rw_aload_n dX2_priceFrom_97 rfl rfl ?_
              refine rw_iload dX2_priceFrom_98 rfl ?_
              refine rw_iload dX2_priceFrom_100 rfl ?_
              refine rw_iconst (v := 1) dX2_priceFrom_102 (by decide) ?_
              refine rw_iadd dX2_priceFrom_103 ?_
              refine rw_iload_n dX2_priceFrom_104 rfl rfl ?_
              refine rw_isub dX2_priceFrom_105 ?_
              obtain ⟨q15, hq15, h⟩ := bw_bd h
              refine rw_callV2 dX2_priceFrom_106 ln_RX2_125 mv_X2_priceOf (sh_plan w) (bw_kl (by decide)) (ct_X2_priceOf hq15) (Nat.le_of_ble_eq_true rfl) (Nat.le_of_ble_eq_true rfl) (bw_kki ?_)
              refine rw_aload_n dX2_priceFrom_109 rfl rfl ?_
              refine rw_get dX2_priceFrom_110 fl_RX2_28 (sh_plan w) (bw_kl (by decide)) rfl ?_
              refine rw_iload dX2_priceFrom_113 rfl ?_
              refine rw_iconst (v := 1) dX2_priceFrom_115 (by decide) ?_
              refine rw_iadd dX2_priceFrom_116 ?_
              refine rw_iald dX2_priceFrom_117 (sh_p_least w) (bw_kl (by decide)) (bw_in g13) ?_
              refine rw_iadd dX2_priceFrom_118 ?_
              obtain ⟨x16, hx16, h⟩ := bw_mlE h
              refine rw_ti hx16 ?_
              refine rw_istore dX2_priceFrom_119 (by decide) ?_
              refine rw_aload_n dX2_priceFrom_121 rfl rfl ?_
              refine rw_get dX2_priceFrom_122 fl_RX2_28 (sh_plan w) (bw_kl (by decide)) rfl ?_
              refine rw_iload_n dX2_priceFrom_125 rfl rfl ?_
              obtain ⟨g17, h⟩ := bw_gd h
              refine rw_iald dX2_priceFrom_126 (sh_p_least w) (bw_kl (by decide)) (bw_in g17) ?_
              refine rw_if_lt (tgt := 141) dX2_priceFrom_127 (by decide) (fun c18 => ?_) (fun c18 => ?_)
              · have h := bw_it c18 h
                refine rw_aload_n dX2_priceFrom_141 rfl rfl ?_
                refine rw_get dX2_priceFrom_142 fl_RX2_28 (sh_plan w) (bw_kl (by decide)) rfl ?_
                refine rw_iload_n dX2_priceFrom_145 rfl rfl ?_
                refine rw_iload dX2_priceFrom_146 rfl ?_
                refine rw_iast dX2_priceFrom_148 (sh_p_least w) (bw_kl (by decide)) (bw_in g17) ?_
                obtain ⟨M19, hM19, h⟩ := bw_mlE h
                refine rw_m hM19.symm ?_
                refine rw_aload_n dX2_priceFrom_149 rfl rfl ?_
                refine rw_get dX2_priceFrom_150 fl_RX2_31 (sh_plan w) (bw_kl (by decide)) rfl ?_
                refine rw_iload_n dX2_priceFrom_153 rfl rfl ?_
                refine rw_iload dX2_priceFrom_154 rfl ?_
                refine rw_iconst (v := 1) dX2_priceFrom_156 (by decide) ?_
                refine rw_iadd dX2_priceFrom_157 ?_
                refine rw_iast dX2_priceFrom_158 (sh_p_next w) (bw_kl (by decide)) (bw_in g17) ?_
                obtain ⟨M20, hM20, h⟩ := bw_mlE h
                refine rw_m hM20.symm ?_
                refine rw_inc dX2_priceFrom_159 rfl (by decide) ?_
                refine rw_goto (tgt := 24) dX2_priceFrom_162 (by decide) ?_
                exact rw_sub (rw_lc rfl (rw_lc rfl (rw_lc rfl (rw_lc rfl (rw_lc rfl rw_lz))))) (ih (v2 + (M 3 v4.toNatClampNeg)) x6 (v4 + 1) M20 h)
              · have h := bw_if c18 h
                refine rw_iload dX2_priceFrom_130 rfl ?_
                refine rw_aload_n dX2_priceFrom_132 rfl rfl ?_
                refine rw_get dX2_priceFrom_133 fl_RX2_28 (sh_plan w) (bw_kl (by decide)) rfl ?_
                refine rw_iload_n dX2_priceFrom_136 rfl rfl ?_
                refine rw_iald dX2_priceFrom_137 (sh_p_least w) (bw_kl (by decide)) (bw_in g17) ?_
                refine rw_icmp_gt (tgt := 159) dX2_priceFrom_138 (by decide) (fun c21 => ?_) (fun c21 => ?_)
                · have h := bw_it c21 h
                  refine rw_inc dX2_priceFrom_159 rfl (by decide) ?_
                  refine rw_goto (tgt := 24) dX2_priceFrom_162 (by decide) ?_
                  exact rw_sub (rw_lc rfl (rw_lc rfl (rw_lc rfl (rw_lc rfl (rw_lc rfl rw_lz))))) (ih (v2 + (M 3 v4.toNatClampNeg)) x6 (v4 + 1) q15.2 h)
                · have h := bw_if c21 h
                  refine rw_aload_n dX2_priceFrom_141 rfl rfl ?_
                  refine rw_get dX2_priceFrom_142 fl_RX2_28 (sh_plan w) (bw_kl (by decide)) rfl ?_
                  refine rw_iload_n dX2_priceFrom_145 rfl rfl ?_
                  refine rw_iload dX2_priceFrom_146 rfl ?_
                  refine rw_iast dX2_priceFrom_148 (sh_p_least w) (bw_kl (by decide)) (bw_in g17) ?_
                  obtain ⟨M22, hM22, h⟩ := bw_mlE h
                  refine rw_m hM22.symm ?_
                  refine rw_aload_n dX2_priceFrom_149 rfl rfl ?_
                  refine rw_get dX2_priceFrom_150 fl_RX2_31 (sh_plan w) (bw_kl (by decide)) rfl ?_
                  refine rw_iload_n dX2_priceFrom_153 rfl rfl ?_
                  refine rw_iload dX2_priceFrom_154 rfl ?_
                  refine rw_iconst (v := 1) dX2_priceFrom_156 (by decide) ?_
                  refine rw_iadd dX2_priceFrom_157 ?_
                  refine rw_iast dX2_priceFrom_158 (sh_p_next w) (bw_kl (by decide)) (bw_in g17) ?_
                  obtain ⟨M23, hM23, h⟩ := bw_mlE h
                  refine rw_m hM23.symm ?_
                  refine rw_inc dX2_priceFrom_159 rfl (by decide) ?_
                  refine rw_goto (tgt := 24) dX2_priceFrom_162 (by decide) ?_
                  exact rw_sub (rw_lc rfl (rw_lc rfl (rw_lc rfl (rw_lc rfl (rw_lc rfl rw_lz))))) (ih (v2 + (M 3 v4.toNatClampNeg)) x6 (v4 + 1) M23 h)
      · have h := bw_if c7 h
        have h := Option.some.inj h
        subst h
        exact rw_vret dX2_priceFrom_63 ⟨rfl, rfl⟩
set_option maxRecDepth 20000 in
set_option maxHeartbeats 1000000 in
theorem ct_X2_priceFrom {w : WE} {M : Mem} {v1 : Int32} {out : Mem} (h : f_X2_priceFrom M v1 = some out) : Ct w 4 yX2_priceFrom cX2_priceFrom 7 none [.ref (bw_ad w 1), .int v1] M (bw_pv out) := by
  refine Ct.of (own := RX2) rfl (by decide) (by intro v hv; simp only [List.mem_cons, List.not_mem_nil, or_false] at hv; rcases hv with rfl | rfl <;> first | rfl | exact bw_cat_rf _) (Nat.le_of_ble_eq_true rfl) ?_
  unfold f_X2_priceFrom at h
  show RW w 4 0 0 0 0 cX2_priceFrom RX2 7 none (bw_Z w (bw_pv out)) 0 [(0, .ref (bw_ad w 1)), (1, .int v1)] [] M
  refine rw_aload_n dX2_priceFrom_0 rfl rfl ?_
  refine rw_get dX2_priceFrom_1 fl_RX2_28 (sh_plan w) (bw_kl (by decide)) rfl ?_
  refine rw_iload_n dX2_priceFrom_4 rfl rfl ?_
  refine rw_iconst (v := -1) dX2_priceFrom_5 (by decide) ?_
  obtain ⟨g1, h⟩ := bw_gd h
  refine rw_iast dX2_priceFrom_6 (sh_p_least w) (bw_kl (by decide)) (bw_in g1) ?_
  obtain ⟨M2, hM2, h⟩ := bw_mlE h
  refine rw_m hM2.symm ?_
  refine rw_aload_n dX2_priceFrom_7 rfl rfl ?_
  refine rw_get dX2_priceFrom_8 fl_RX2_31 (sh_plan w) (bw_kl (by decide)) rfl ?_
  refine rw_iload_n dX2_priceFrom_11 rfl rfl ?_
  refine rw_aload_n dX2_priceFrom_12 rfl rfl ?_
  refine rw_get dX2_priceFrom_13 fl_RX2_46 (sh_plan w) (bw_kl (by decide)) rfl ?_
  refine rw_iast dX2_priceFrom_16 (sh_p_next w) (bw_kl (by decide)) (bw_in g1) ?_
  obtain ⟨M3, hM3, h⟩ := bw_mlE h
  refine rw_m hM3.symm ?_
  refine rw_iconst (v := 0) dX2_priceFrom_17 (by decide) ?_
  refine rw_istore_n dX2_priceFrom_18 rfl (by decide) ?_
  refine rw_iconst (v := 0) dX2_priceFrom_19 (by decide) ?_
  refine rw_istore_n dX2_priceFrom_20 rfl (by decide) ?_
  refine rw_iload_n dX2_priceFrom_21 rfl rfl ?_
  refine rw_istore dX2_priceFrom_22 (by decide) ?_
  exact rw_sub (rw_lc rfl (rw_lc rfl (rw_lc rfl (rw_lc rfl (rw_lc rfl rw_lz))))) (th_X2_priceFrom_L24 bw_fu (0 : Int32) (0 : Int32) v1 M3 h)
set_option maxRecDepth 20000 in
set_option maxHeartbeats 1000000 in
theorem th_X2_leastPrices_L17 {w : WE} {out : Int32 × Mem} : ∀ (n : Nat) (v1 : Int32) (M : Mem), f_X2_leastPrices_L17 n v1 M = some out → RW w 5 0 0 0 0 cX2_leastPrices RX2 2 (some .int) (bw_Z w (bw_pi (out.1) out.2)) 17 [(0, .ref (bw_ad w 1)), (1, .int v1)] [] M := by
  intro n
  induction n with
  | zero => intro v1 M h; cases h
  | succ n ih =>
    intro v1 M h
    rw [f_X2_leastPrices_L17] at h
    refine rw_iload_n dX2_leastPrices_17 rfl rfl ?_
    refine rw_if_lt (tgt := 32) dX2_leastPrices_18 (by decide) (fun c3 => ?_) (fun c3 => ?_)
    · have h := bw_it c3 h
      refine rw_aload_n dX2_leastPrices_32 rfl rfl ?_
      refine rw_get dX2_leastPrices_33 fl_RX2_28 (sh_plan w) (bw_kl (by decide)) rfl ?_
      refine rw_iconst (v := 0) dX2_leastPrices_36 (by decide) ?_
      refine rw_iald dX2_leastPrices_37 (sh_p_least w) (bw_kl (by decide)) (bw_in (show bw_ib (0 : Int32) 25 = true by decide)) ?_
      refine rw_if_ge (tgt := 46) dX2_leastPrices_38 (by decide) (fun c4 => ?_) (fun c4 => ?_)
      · have h := bw_it c4 h
        refine rw_aload_n dX2_leastPrices_46 rfl rfl ?_
        refine rw_get dX2_leastPrices_47 fl_RX2_28 (sh_plan w) (bw_kl (by decide)) rfl ?_
        refine rw_iconst (v := 0) dX2_leastPrices_50 (by decide) ?_
        refine rw_iald dX2_leastPrices_51 (sh_p_least w) (bw_kl (by decide)) (bw_in (show bw_ib (0 : Int32) 25 = true by decide)) ?_
        have h := Option.some.inj h
        subst h
        exact rw_iret dX2_leastPrices_52 ⟨rfl, rfl⟩
      · have h := bw_if c4 h
        refine rw_ldc dX2_leastPrices_41 cn_RX2_110 ?_
        refine rw_goto (tgt := 52) dX2_leastPrices_43 (by decide) ?_
        have h := Option.some.inj h
        subst h
        exact rw_iret dX2_leastPrices_52 ⟨rfl, rfl⟩
    · have h := bw_if c3 h
      refine rw_aload_n dX2_leastPrices_21 rfl rfl ?_
      refine rw_iload_n dX2_leastPrices_22 rfl rfl ?_
      obtain ⟨q5, hq5, h⟩ := bw_bd h
      refine rw_callV1 dX2_leastPrices_23 ln_RX2_106 mv_X2_priceFrom (sh_plan w) (bw_kl (by decide)) (ct_X2_priceFrom hq5) (Nat.le_of_ble_eq_true rfl) (Nat.le_of_ble_eq_true rfl) (bw_kkv ?_)
      refine rw_dec dX2_leastPrices_26 rfl (by decide) ?_
      refine rw_goto (tgt := 17) dX2_leastPrices_29 (by decide) ?_
      exact rw_sub (rw_lc rfl (rw_lc rfl rw_lz)) (ih (v1 - 1) q5 h)
set_option maxRecDepth 20000 in
set_option maxHeartbeats 1000000 in
theorem ct_X2_leastPrices {w : WE} {M : Mem} {out : Int32 × Mem} (h : f_X2_leastPrices M = some out) : Ct w 5 yX2_leastPrices cX2_leastPrices 2 (some .int) [.ref (bw_ad w 1)] M (bw_pi (out.1) out.2) := by
  refine Ct.of (own := RX2) rfl (by decide) (by intro v hv; rw [List.mem_singleton.mp hv]; first | rfl | exact bw_cat_rf _) (Nat.le_of_ble_eq_true rfl) ?_
  unfold f_X2_leastPrices at h
  show RW w 5 0 0 0 0 cX2_leastPrices RX2 2 (some .int) (bw_Z w (bw_pi (out.1) out.2)) 0 [(0, .ref (bw_ad w 1))] [] M
  refine rw_aload_n dX2_leastPrices_0 rfl rfl ?_
  refine rw_get dX2_leastPrices_1 fl_RX2_28 (sh_plan w) (bw_kl (by decide)) rfl ?_
  refine rw_aload_n dX2_leastPrices_4 rfl rfl ?_
  refine rw_get dX2_leastPrices_5 fl_RX2_46 (sh_plan w) (bw_kl (by decide)) rfl ?_
  refine rw_iconst (v := 0) dX2_leastPrices_8 (by decide) ?_
  obtain ⟨g1, h⟩ := bw_gd h
  refine rw_iast dX2_leastPrices_9 (sh_p_least w) (bw_kl (by decide)) (bw_in g1) ?_
  obtain ⟨M2, hM2, h⟩ := bw_mlE h
  refine rw_m hM2.symm ?_
  refine rw_aload_n dX2_leastPrices_10 rfl rfl ?_
  refine rw_get dX2_leastPrices_11 fl_RX2_46 (sh_plan w) (bw_kl (by decide)) rfl ?_
  refine rw_iconst (v := 1) dX2_leastPrices_14 (by decide) ?_
  refine rw_isub dX2_leastPrices_15 ?_
  refine rw_istore_n dX2_leastPrices_16 rfl (by decide) ?_
  exact rw_sub (rw_lc rfl (rw_lc rfl rw_lz)) (th_X2_leastPrices_L17 bw_fu ((M2 1 0) - (1 : Int32)) M2 h)
set_option maxRecDepth 20000 in
set_option maxHeartbeats 1000000 in
theorem th_X2_settle_L18 {w : WE} {out : Int32 × Mem} : ∀ (n : Nat) (v1 : Int32) (v2 : Int32) (M : Mem), f_X2_settle_L18 n v1 v2 M = some out → RW w 6 0 0 0 0 cX2_settle RX2 3 (some .boolean) (bw_Z w (bw_pz (out.1) out.2)) 18 [(0, .ref (bw_ad w 1)), (1, .int v1), (2, .int v2)] [] M := by
  intro n
  induction n with
  | zero => intro v1 v2 M h; cases h
  | succ n ih =>
    intro v1 v2 M h
    rw [f_X2_settle_L18] at h
    refine rw_iload_n dX2_settle_18 rfl rfl ?_
    refine rw_bipush (v := 24) dX2_settle_19 (by decide) ?_
    refine rw_icmp_ge (tgt := 65) dX2_settle_21 (by decide) (fun c4 => ?_) (fun c4 => ?_)
    · have h := bw_it c4 h
      refine rw_aload_n dX2_settle_65 rfl rfl ?_
      refine rw_get dX2_settle_66 fl_RX2_34 (sh_plan w) (bw_kl (by decide)) rfl ?_
      refine rw_aload_n dX2_settle_69 rfl rfl ?_
      refine rw_get dX2_settle_70 fl_RX2_99 (sh_plan w) (bw_kl (by decide)) rfl ?_
      refine rw_aload_n dX2_settle_73 rfl rfl ?_
      refine rw_get dX2_settle_74 fl_RX2_46 (sh_plan w) (bw_kl (by decide)) rfl ?_
      obtain ⟨g5, h⟩ := bw_gd h
      refine rw_iast dX2_settle_77 (sh_p_first w) (bw_kl (by decide)) (bw_in g5) ?_
      obtain ⟨M6, hM6, h⟩ := bw_mlE h
      refine rw_m hM6.symm ?_
      refine rw_iconst (v := 1) dX2_settle_78 (by decide) ?_
      have h := Option.some.inj h
      subst h
      exact rw_zret dX2_settle_79 bw_n1 ⟨rfl, rfl, bw_n1⟩
    · have h := bw_if c4 h
      refine rw_iload_n dX2_settle_24 rfl rfl ?_
      refine rw_aload_n dX2_settle_25 rfl rfl ?_
      refine rw_get dX2_settle_26 fl_RX2_46 (sh_plan w) (bw_kl (by decide)) rfl ?_
      refine rw_icmp_ge (tgt := 65) dX2_settle_29 (by decide) (fun c7 => ?_) (fun c7 => ?_)
      · have h := bw_it c7 h
        refine rw_aload_n dX2_settle_65 rfl rfl ?_
        refine rw_get dX2_settle_66 fl_RX2_34 (sh_plan w) (bw_kl (by decide)) rfl ?_
        refine rw_aload_n dX2_settle_69 rfl rfl ?_
        refine rw_get dX2_settle_70 fl_RX2_99 (sh_plan w) (bw_kl (by decide)) rfl ?_
        refine rw_aload_n dX2_settle_73 rfl rfl ?_
        refine rw_get dX2_settle_74 fl_RX2_46 (sh_plan w) (bw_kl (by decide)) rfl ?_
        obtain ⟨g8, h⟩ := bw_gd h
        refine rw_iast dX2_settle_77 (sh_p_first w) (bw_kl (by decide)) (bw_in g8) ?_
        obtain ⟨M9, hM9, h⟩ := bw_mlE h
        refine rw_m hM9.symm ?_
        refine rw_iconst (v := 1) dX2_settle_78 (by decide) ?_
        have h := Option.some.inj h
        subst h
        exact rw_zret dX2_settle_79 bw_n1 ⟨rfl, rfl, bw_n1⟩
      · have h := bw_if c7 h
        refine rw_aload_n dX2_settle_32 rfl rfl ?_
        refine rw_get dX2_settle_33 fl_RX2_34 (sh_plan w) (bw_kl (by decide)) rfl ?_
        refine rw_aload_n dX2_settle_36 rfl rfl ?_
        refine rw_get dX2_settle_37 fl_RX2_99 (sh_plan w) (bw_kl (by decide)) rfl ?_
        refine rw_iload_n dX2_settle_40 rfl rfl ?_
        obtain ⟨g10, h⟩ := bw_gd h
        refine rw_iast dX2_settle_41 (sh_p_first w) (bw_kl (by decide)) (bw_in g10) ?_
        obtain ⟨M11, hM11, h⟩ := bw_mlE h
        refine rw_m hM11.symm ?_
        refine rw_aload_n dX2_settle_42 rfl rfl ?_
        refine rw_dup dX2_settle_43 rfl ?_
        refine rw_get dX2_settle_44 fl_RX2_99 (sh_plan w) (bw_kl (by decide)) rfl ?_
        refine rw_iconst (v := 1) dX2_settle_47 (by decide) ?_
        refine rw_iadd dX2_settle_48 ?_
        refine rw_puti dX2_settle_49 fl_RX2_99 fp_2_14 (sh_plan w) (bw_kl (by decide)) (by decide) (fun _ => rfl) (fun _ => Nat.le_of_ble_eq_true rfl) ?_
        obtain ⟨M12, hM12, h⟩ := bw_mlE h
        refine rw_m hM12.symm ?_
        refine rw_aload_n dX2_settle_52 rfl rfl ?_
        refine rw_get dX2_settle_53 fl_RX2_31 (sh_plan w) (bw_kl (by decide)) rfl ?_
        refine rw_iload_n dX2_settle_56 rfl rfl ?_
        obtain ⟨g13, h⟩ := bw_gd h
        refine rw_iald dX2_settle_57 (sh_p_next w) (bw_kl (by decide)) (bw_in g13) ?_
        refine rw_istore_n dX2_settle_58 rfl (by decide) ?_
        refine rw_inc dX2_settle_59 rfl (by decide) ?_
        refine rw_goto (tgt := 18) dX2_settle_62 (by decide) ?_
        exact rw_sub (rw_lc rfl (rw_lc rfl (rw_lc rfl rw_lz))) (ih (M12 8 v1.toNatClampNeg) (v2 + 1) M12 h)
set_option maxRecDepth 20000 in
set_option maxHeartbeats 1000000 in
theorem ct_X2_settle {w : WE} {M : Mem} {out : Int32 × Mem} (h : f_X2_settle M = some out) : Ct w 6 yX2_settle cX2_settle 3 (some .boolean) [.ref (bw_ad w 1)] M (bw_pz (out.1) out.2) := by
  refine Ct.of (own := RX2) rfl (by decide) (by intro v hv; rw [List.mem_singleton.mp hv]; first | rfl | exact bw_cat_rf _) (Nat.le_of_ble_eq_true rfl) ?_
  unfold f_X2_settle at h
  show RW w 6 0 0 0 0 cX2_settle RX2 3 (some .boolean) (bw_Z w (bw_pz (out.1) out.2)) 0 [(0, .ref (bw_ad w 1))] [] M
  refine rw_aload_n dX2_settle_0 rfl rfl ?_
  refine rw_iconst (v := 0) dX2_settle_1 (by decide) ?_
  refine rw_puti dX2_settle_2 fl_RX2_99 fp_2_14 (sh_plan w) (bw_kl (by decide)) (by decide) (fun _ => rfl) (fun _ => Nat.le_of_ble_eq_true rfl) ?_
  obtain ⟨M1, hM1, h⟩ := bw_mlE h
  refine rw_m hM1.symm ?_
  refine rw_aload_n dX2_settle_5 rfl rfl ?_
  obtain ⟨q2, hq2, h⟩ := bw_bd h
  refine rw_callV0 dX2_settle_6 ln_RX2_102 mv_X2_leastPrices (sh_plan w) (bw_kl (by decide)) (ct_X2_leastPrices hq2) (Nat.le_of_ble_eq_true rfl) (Nat.le_of_ble_eq_true rfl) (bw_kki ?_)
  refine rw_if_ge (tgt := 14) dX2_settle_9 (by decide) (fun c3 => ?_) (fun c3 => ?_)
  · have h := bw_it c3 h
    refine rw_iconst (v := 0) dX2_settle_14 (by decide) ?_
    refine rw_istore_n dX2_settle_15 rfl (by decide) ?_
    refine rw_iconst (v := 0) dX2_settle_16 (by decide) ?_
    refine rw_istore_n dX2_settle_17 rfl (by decide) ?_
    exact rw_sub (rw_lc rfl (rw_lc rfl (rw_lc rfl rw_lz))) (th_X2_settle_L18 bw_fu (0 : Int32) (0 : Int32) q2.2 h)
  · have h := bw_if c3 h
    refine rw_iconst (v := 0) dX2_settle_12 (by decide) ?_
    have h := Option.some.inj h
    subst h
    exact rw_zret dX2_settle_13 bw_n0 ⟨rfl, rfl, bw_n0⟩
