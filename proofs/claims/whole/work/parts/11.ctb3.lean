set_option maxRecDepth 20000 in
set_option maxHeartbeats 1000000 in
theorem ct_X10_rank {w : WE} {M : Mem} {v0 : Int32} {out : Int32} (h : f_X10_rank v0 = out) : Ct w 0 yX10_rank cX10_rank 1 (some .int) [.int v0] M (bw_pi (out) M) := by
  refine Ct.of (own := RX10) rfl (by decide) (by intro v hv; rw [List.mem_singleton.mp hv]; first | rfl | exact bw_cat_rf _) (Nat.le_of_ble_eq_true rfl) ?_
  unfold f_X10_rank at h
  show RW w 0 0 0 0 0 cX10_rank RX10 1 (some .int) (bw_Z w (bw_pi (out) M)) 0 [(0, .int v0)] [] M
  refine rw_iload_n dX10_rank_0 rfl rfl ?_
  refine rw_iconst (v := -1) dX10_rank_1 (by decide) ?_
  have key : RW w 0 0 0 0 0 cX10_rank RX10 1 (some .int) (bw_Z w (bw_pi (out) M)) 51 [] [.int (if v0 = (-1 : Int32) then (1 : Int32) else (if v0 = (-2 : Int32) then (2 : Int32) else (if v0 < (-5 : Int32) then (if v0 < (-7 : Int32) then (if v0 < (-9 : Int32) then (6 : Int32) else (5 : Int32)) else (4 : Int32)) else (3 : Int32))))] M := by
    subst h
    exact rw_iret dX10_rank_51 ⟨rfl, rfl⟩
  refine rw_icmp_ne (tgt := 9) dX10_rank_2 (by decide) (fun c1 => ?_) (fun c1 => ?_)
  · refine rw_iload_n dX10_rank_9 rfl rfl ?_
    refine rw_bipush (v := -2) dX10_rank_10 (by decide) ?_
    refine rw_icmp_ne (tgt := 19) dX10_rank_12 (by decide) (fun c2 => ?_) (fun c2 => ?_)
    · refine rw_iload_n dX10_rank_19 rfl rfl ?_
      refine rw_bipush (v := -5) dX10_rank_20 (by decide) ?_
      refine rw_icmp_lt (tgt := 29) dX10_rank_22 (by decide) (fun c3 => ?_) (fun c3 => ?_)
      · refine rw_iload_n dX10_rank_29 rfl rfl ?_
        refine rw_bipush (v := -7) dX10_rank_30 (by decide) ?_
        refine rw_icmp_lt (tgt := 39) dX10_rank_32 (by decide) (fun c4 => ?_) (fun c4 => ?_)
        · refine rw_iload_n dX10_rank_39 rfl rfl ?_
          refine rw_bipush (v := -9) dX10_rank_40 (by decide) ?_
          refine rw_icmp_lt (tgt := 49) dX10_rank_42 (by decide) (fun c5 => ?_) (fun c5 => ?_)
          · refine rw_bipush (v := 6) dX10_rank_49 (by decide) ?_
            simp only [if_neg c1, if_neg c2, if_pos c3, if_pos c4, if_pos c5] at key
            exact rw_sub rw_lz key
          · refine rw_iconst (v := 5) dX10_rank_45 (by decide) ?_
            refine rw_goto (tgt := 51) dX10_rank_46 (by decide) ?_
            simp only [if_neg c1, if_neg c2, if_pos c3, if_pos c4, if_neg c5] at key
            exact rw_sub rw_lz key
        · refine rw_iconst (v := 4) dX10_rank_35 (by decide) ?_
          refine rw_goto (tgt := 51) dX10_rank_36 (by decide) ?_
          simp only [if_neg c1, if_neg c2, if_pos c3, if_neg c4] at key
          exact rw_sub rw_lz key
      · refine rw_iconst (v := 3) dX10_rank_25 (by decide) ?_
        refine rw_goto (tgt := 51) dX10_rank_26 (by decide) ?_
        simp only [if_neg c1, if_neg c2, if_neg c3] at key
        exact rw_sub rw_lz key
    · refine rw_iconst (v := 2) dX10_rank_15 (by decide) ?_
      refine rw_goto (tgt := 51) dX10_rank_16 (by decide) ?_
      simp only [if_neg c1, if_pos c2] at key
      exact rw_sub rw_lz key
  · refine rw_iconst (v := 1) dX10_rank_5 (by decide) ?_
    refine rw_goto (tgt := 51) dX10_rank_6 (by decide) ?_
    simp only [if_pos c1] at key
    exact rw_sub rw_lz key
set_option maxRecDepth 20000 in
set_option maxHeartbeats 1000000 in
theorem th_X10_settle_L0 {w : WE} {v1 : Int32} {out : Mem} : ∀ (n : Nat) (M : Mem), f_X10_settle_L0 v1 n M = some out → RW w 1 0 0 0 0 cX10_settle RX10 2 none (bw_Z w (bw_pv out)) 0 [(0, .ref (bw_ad w 93)), (1, .int v1)] [] M := by
  intro n
  induction n with
  | zero => intro M h; cases h
  | succ n ih =>
    intro M h
    rw [f_X10_settle_L0] at h
    refine rw_aload_n dX10_settle_0 rfl rfl ?_
    refine rw_get dX10_settle_1 fl_RX10_296 (sh_m w) (bw_kl (by decide)) rfl ?_
    refine rw_if_le (tgt := 82) dX10_settle_4 (by decide) (fun c1 => ?_) (fun c1 => ?_)
    · have h := bw_it c1 h
      have h := Option.some.inj h
      subst h
      exact rw_vret dX10_settle_82 ⟨rfl, rfl⟩
    · have h := bw_if c1 h
      refine rw_aload_n dX10_settle_7 rfl rfl ?_
      refine rw_get dX10_settle_8 fl_RX10_72 (sh_m w) (bw_kl (by decide)) rfl ?_
      refine rw_aload_n dX10_settle_11 rfl rfl ?_
      refine rw_get dX10_settle_12 fl_RX10_296 (sh_m w) (bw_kl (by decide)) rfl ?_
      refine rw_iconst (v := 1) dX10_settle_15 (by decide) ?_
      refine rw_isub dX10_settle_16 ?_
      obtain ⟨g2, h⟩ := bw_gd h
      refine rw_iald dX10_settle_17 (sh_m_waits w) (bw_kl (by decide)) (bw_in g2) ?_
      refine rw_bipush (v := -11) dX10_settle_18 (by decide) ?_
      refine rw_icmp_eq (tgt := 82) dX10_settle_20 (by decide) (fun c3 => ?_) (fun c3 => ?_)
      · have h := bw_it c3 h
        have h := Option.some.inj h
        subst h
        exact rw_vret dX10_settle_82 ⟨rfl, rfl⟩
      · have h := bw_if c3 h
        refine rw_aload_n dX10_settle_23 rfl rfl ?_
        refine rw_get dX10_settle_24 fl_RX10_72 (sh_m w) (bw_kl (by decide)) rfl ?_
        refine rw_aload_n dX10_settle_27 rfl rfl ?_
        refine rw_get dX10_settle_28 fl_RX10_296 (sh_m w) (bw_kl (by decide)) rfl ?_
        refine rw_iconst (v := 1) dX10_settle_31 (by decide) ?_
        refine rw_isub dX10_settle_32 ?_
        refine rw_iald dX10_settle_33 (sh_m_waits w) (bw_kl (by decide)) (bw_in g2) ?_
        refine rw_callS1 dX10_settle_34 ln_RX10_299 ms_X10_rank (ct_X10_rank rfl) (Nat.le_of_ble_eq_true rfl) (Nat.le_of_ble_eq_true rfl) (bw_kki ?_)
        refine rw_iload_n dX10_settle_37 rfl rfl ?_
        refine rw_icmp_lt (tgt := 82) dX10_settle_38 (by decide) (fun c4 => ?_) (fun c4 => ?_)
        · have h := bw_it c4 h
          have h := Option.some.inj h
          subst h
          exact rw_vret dX10_settle_82 ⟨rfl, rfl⟩
        · have h := bw_if c4 h
          refine rw_aload_n dX10_settle_41 rfl rfl ?_
          refine rw_dup dX10_settle_42 rfl ?_
          refine rw_get dX10_settle_43 fl_RX10_296 (sh_m w) (bw_kl (by decide)) rfl ?_
          refine rw_iconst (v := 1) dX10_settle_46 (by decide) ?_
          refine rw_isub dX10_settle_47 ?_
          refine rw_puti dX10_settle_48 fl_RX10_296 fp_10_39 (sh_m w) (bw_kl (by decide)) (by decide) (fun _ => rfl) (fun _ => Nat.le_of_ble_eq_true rfl) ?_
          obtain ⟨M5, hM5, h⟩ := bw_mlE h
          refine rw_m hM5.symm ?_
          refine rw_aload_n dX10_settle_51 rfl rfl ?_
          refine rw_get dX10_settle_52 fl_RX10_69 (sh_m w) (bw_kl (by decide)) rfl ?_
          refine rw_aload_n dX10_settle_55 rfl rfl ?_
          refine rw_get dX10_settle_56 fl_RX10_302 (sh_m w) (bw_kl (by decide)) rfl ?_
          refine rw_aload_n dX10_settle_59 rfl rfl ?_
          refine rw_get dX10_settle_60 fl_RX10_72 (sh_m w) (bw_kl (by decide)) rfl ?_
          refine rw_aload_n dX10_settle_63 rfl rfl ?_
          refine rw_get dX10_settle_64 fl_RX10_296 (sh_m w) (bw_kl (by decide)) rfl ?_
          obtain ⟨g6, h⟩ := bw_gd h
          refine rw_iald dX10_settle_67 (sh_m_waits w) (bw_kl (by decide)) (bw_in g6) ?_
          obtain ⟨g7, h⟩ := bw_gd h
          refine rw_iast dX10_settle_68 (sh_m_code w) (bw_kl (by decide)) (bw_in g7) ?_
          obtain ⟨M8, hM8, h⟩ := bw_mlE h
          refine rw_m hM8.symm ?_
          refine rw_aload_n dX10_settle_69 rfl rfl ?_
          refine rw_dup dX10_settle_70 rfl ?_
          refine rw_get dX10_settle_71 fl_RX10_302 (sh_m w) (bw_kl (by decide)) rfl ?_
          refine rw_iconst (v := 1) dX10_settle_74 (by decide) ?_
          refine rw_iadd dX10_settle_75 ?_
          refine rw_puti dX10_settle_76 fl_RX10_302 fp_10_36 (sh_m w) (bw_kl (by decide)) (by decide) (fun _ => rfl) (fun _ => Nat.le_of_ble_eq_true rfl) ?_
          obtain ⟨M9, hM9, h⟩ := bw_mlE h
          refine rw_m hM9.symm ?_
          refine rw_goto (tgt := 0) dX10_settle_79 (by decide) ?_
          exact rw_sub (rw_lc rfl (rw_lc rfl rw_lz)) (ih M9 h)
set_option maxRecDepth 20000 in
set_option maxHeartbeats 1000000 in
theorem ct_X10_settle {w : WE} {M : Mem} {v1 : Int32} {out : Mem} (h : f_X10_settle M v1 = some out) : Ct w 1 yX10_settle cX10_settle 2 none [.ref (bw_ad w 93), .int v1] M (bw_pv out) := by
  refine Ct.of (own := RX10) rfl (by decide) (by intro v hv; simp only [List.mem_cons, List.not_mem_nil, or_false] at hv; rcases hv with rfl | rfl <;> first | rfl | exact bw_cat_rf _) (Nat.le_of_ble_eq_true rfl) ?_
  unfold f_X10_settle at h
  show RW w 1 0 0 0 0 cX10_settle RX10 2 none (bw_Z w (bw_pv out)) 0 [(0, .ref (bw_ad w 93)), (1, .int v1)] [] M
  exact rw_sub (rw_lc rfl (rw_lc rfl rw_lz)) (th_X10_settle_L0 bw_fu M h)
set_option maxRecDepth 20000 in
set_option maxHeartbeats 1000000 in
theorem ct_X10_signHere {w : WE} {M : Mem} {out : Int32} (h : f_X10_signHere M = out) : Ct w 0 yX10_signHere cX10_signHere 1 (some .int) [.ref (bw_ad w 93)] M (bw_pi (out) M) := by
  refine Ct.of (own := RX10) rfl (by decide) (by intro v hv; rw [List.mem_singleton.mp hv]; first | rfl | exact bw_cat_rf _) (Nat.le_of_ble_eq_true rfl) ?_
  unfold f_X10_signHere at h
  show RW w 0 0 0 0 0 cX10_signHere RX10 1 (some .int) (bw_Z w (bw_pi (out) M)) 0 [(0, .ref (bw_ad w 93))] [] M
  refine rw_aload_n dX10_signHere_0 rfl rfl ?_
  refine rw_get dX10_signHere_1 fl_RX10_278 (sh_m w) (bw_kl (by decide)) rfl ?_
  refine rw_iconst (v := 3) dX10_signHere_4 (by decide) ?_
  refine rw_icmp_eq (tgt := 10) dX10_signHere_5 (by decide) (fun c1 => ?_) (fun c1 => ?_)
  · have h := bw_it c1 h
    refine rw_aload_n dX10_signHere_10 rfl rfl ?_
    refine rw_get dX10_signHere_11 fl_RX10_284 (sh_m w) (bw_kl (by decide)) rfl ?_
    refine rw_case (38 : Int32) (fun c2 => ?_) (fun c2 => ?_)
    · have h := bw_it c2 h
      refine rw_lookup (off := 84) (tgt := 98) dX10_signHere_14 (by decide) (by first | (rw [c2]; done) | (rw [c2]; rfl)) (by decide) ?_
      refine rw_bipush (v := -2) dX10_signHere_98 (by decide) ?_
      subst h
      exact rw_iret dX10_signHere_100 ⟨rfl, rfl⟩
    · have h := bw_if c2 h
      refine rw_case (42 : Int32) (fun c3 => ?_) (fun c3 => ?_)
      · have h := bw_it c3 h
        refine rw_lookup (off := 102) (tgt := 116) dX10_signHere_14 (by decide) (by first | (rw [c3]; done) | (rw [c3]; rfl)) (by decide) ?_
        refine rw_bipush (v := -8) dX10_signHere_116 (by decide) ?_
        subst h
        exact rw_iret dX10_signHere_118 ⟨rfl, rfl⟩
      · have h := bw_if c3 h
        refine rw_case (43 : Int32) (fun c4 => ?_) (fun c4 => ?_)
        · have h := bw_it c4 h
          refine rw_lookup (off := 96) (tgt := 110) dX10_signHere_14 (by decide) (by first | (rw [c4]; done) | (rw [c4]; rfl)) (by decide) ?_
          refine rw_bipush (v := -6) dX10_signHere_110 (by decide) ?_
          subst h
          exact rw_iret dX10_signHere_112 ⟨rfl, rfl⟩
        · have h := bw_if c4 h
          refine rw_case (45 : Int32) (fun c5 => ?_) (fun c5 => ?_)
          · have h := bw_it c5 h
            refine rw_lookup (off := 99) (tgt := 113) dX10_signHere_14 (by decide) (by first | (rw [c5]; done) | (rw [c5]; rfl)) (by decide) ?_
            refine rw_bipush (v := -7) dX10_signHere_113 (by decide) ?_
            subst h
            exact rw_iret dX10_signHere_115 ⟨rfl, rfl⟩
          · have h := bw_if c5 h
            refine rw_case (47 : Int32) (fun c6 => ?_) (fun c6 => ?_)
            · have h := bw_it c6 h
              refine rw_lookup (off := 105) (tgt := 119) dX10_signHere_14 (by decide) (by first | (rw [c6]; done) | (rw [c6]; rfl)) (by decide) ?_
              refine rw_bipush (v := -9) dX10_signHere_119 (by decide) ?_
              subst h
              exact rw_iret dX10_signHere_121 ⟨rfl, rfl⟩
            · have h := bw_if c6 h
              refine rw_case (60 : Int32) (fun c7 => ?_) (fun c7 => ?_)
              · have h := bw_it c7 h
                refine rw_lookup (off := 87) (tgt := 101) dX10_signHere_14 (by decide) (by first | (rw [c7]; done) | (rw [c7]; rfl)) (by decide) ?_
                refine rw_bipush (v := -3) dX10_signHere_101 (by decide) ?_
                subst h
                exact rw_iret dX10_signHere_103 ⟨rfl, rfl⟩
              · have h := bw_if c7 h
                refine rw_case (61 : Int32) (fun c8 => ?_) (fun c8 => ?_)
                · have h := bw_it c8 h
                  refine rw_lookup (off := 90) (tgt := 104) dX10_signHere_14 (by decide) (by first | (rw [c8]; done) | (rw [c8]; rfl)) (by decide) ?_
                  refine rw_bipush (v := -4) dX10_signHere_104 (by decide) ?_
                  subst h
                  exact rw_iret dX10_signHere_106 ⟨rfl, rfl⟩
                · have h := bw_if c8 h
                  refine rw_case (62 : Int32) (fun c9 => ?_) (fun c9 => ?_)
                  · have h := bw_it c9 h
                    refine rw_lookup (off := 93) (tgt := 107) dX10_signHere_14 (by decide) (by first | (rw [c9]; done) | (rw [c9]; rfl)) (by decide) ?_
                    refine rw_bipush (v := -5) dX10_signHere_107 (by decide) ?_
                    subst h
                    exact rw_iret dX10_signHere_109 ⟨rfl, rfl⟩
                  · have h := bw_if c9 h
                    refine rw_case (124 : Int32) (fun c10 => ?_) (fun c10 => ?_)
                    · have h := bw_it c10 h
                      refine rw_lookup (off := 82) (tgt := 96) dX10_signHere_14 (by decide) (by first | (rw [c10]; done) | (rw [c10]; rfl)) (by decide) ?_
                      refine rw_iconst (v := -1) dX10_signHere_96 (by decide) ?_
                      subst h
                      exact rw_iret dX10_signHere_97 ⟨rfl, rfl⟩
                    · have h := bw_if c10 h
                      refine rw_lookup (off := 108) (tgt := 122) dX10_signHere_14 (by decide) (by first | (rw [lv_osw (a := 38) c2 (by decide), lv_osw (a := 42) c3 (by decide), lv_osw (a := 43) c4 (by decide), lv_osw (a := 45) c5 (by decide), lv_osw (a := 47) c6 (by decide), lv_osw (a := 60) c7 (by decide), lv_osw (a := 61) c8 (by decide), lv_osw (a := 62) c9 (by decide), lv_osw (a := 124) c10 (by decide)]; done) | (rw [lv_osw (a := 38) c2 (by decide), lv_osw (a := 42) c3 (by decide), lv_osw (a := 43) c4 (by decide), lv_osw (a := 45) c5 (by decide), lv_osw (a := 47) c6 (by decide), lv_osw (a := 60) c7 (by decide), lv_osw (a := 61) c8 (by decide), lv_osw (a := 62) c9 (by decide), lv_osw (a := 124) c10 (by decide)]; rfl)) (by decide) ?_
                      refine rw_iconst (v := 0) dX10_signHere_122 (by decide) ?_
                      subst h
                      exact rw_iret dX10_signHere_123 ⟨rfl, rfl⟩
  · have h := bw_if c1 h
    refine rw_iconst (v := 0) dX10_signHere_8 (by decide) ?_
    subst h
    exact rw_iret dX10_signHere_9 ⟨rfl, rfl⟩
set_option maxRecDepth 20000 in
set_option maxHeartbeats 1000000 in
theorem th_X10_takesPart_J87 {w : WE} {M : Mem} {s1 : Int32} {s2 : Int32} {out : Int32 × Mem} (h : f_X10_takesPart_J87 M s1 s2 = some out) : RW w 2 0 0 0 0 cX10_takesPart RX10 2 (some .boolean) (bw_Z w (bw_pz (out.1) out.2)) 87 [(0, .ref (bw_ad w 93))] [.int s2, .int s1, .ref (bw_ad w 113)] M := by
  unfold f_X10_takesPart_J87 at h
  obtain ⟨g4, h⟩ := bw_gd h
  refine rw_iast dX10_takesPart_87 (sh_m_code w) (bw_kl (by decide)) (bw_in g4) ?_
  obtain ⟨M5, hM5, h⟩ := bw_mlE h
  refine rw_m hM5.symm ?_
  refine rw_aload_n dX10_takesPart_88 rfl rfl ?_
  refine rw_dup dX10_takesPart_89 rfl ?_
  refine rw_get dX10_takesPart_90 fl_RX10_302 (sh_m w) (bw_kl (by decide)) rfl ?_
  refine rw_iconst (v := 1) dX10_takesPart_93 (by decide) ?_
  refine rw_iadd dX10_takesPart_94 ?_
  refine rw_puti dX10_takesPart_95 fl_RX10_302 fp_10_36 (sh_m w) (bw_kl (by decide)) (by decide) (fun _ => rfl) (fun _ => Nat.le_of_ble_eq_true rfl) ?_
  obtain ⟨M6, hM6, h⟩ := bw_mlE h
  refine rw_m hM6.symm ?_
  refine rw_aload_n dX10_takesPart_98 rfl rfl ?_
  refine rw_dup dX10_takesPart_99 rfl ?_
  refine rw_get dX10_takesPart_100 fl_RX10_308 (sh_m w) (bw_kl (by decide)) rfl ?_
  refine rw_iconst (v := 1) dX10_takesPart_103 (by decide) ?_
  refine rw_iadd dX10_takesPart_104 ?_
  refine rw_puti dX10_takesPart_105 fl_RX10_308 fp_10_37 (sh_m w) (bw_kl (by decide)) (by decide) (fun _ => rfl) (fun _ => Nat.le_of_ble_eq_true rfl) ?_
  obtain ⟨M7, hM7, h⟩ := bw_mlE h
  refine rw_m hM7.symm ?_
  refine rw_aload_n dX10_takesPart_108 rfl rfl ?_
  refine rw_bipush (v := 6) dX10_takesPart_109 (by decide) ?_
  obtain ⟨q8, hq8, h⟩ := bw_bd h
  refine rw_callV1 dX10_takesPart_111 ln_RX10_311 mv_X10_settle (sh_m w) (bw_kl (by decide)) (ct_X10_settle hq8) (Nat.le_of_ble_eq_true rfl) (Nat.le_of_ble_eq_true rfl) (bw_kkv ?_)
  refine rw_aload_n dX10_takesPart_114 rfl rfl ?_
  obtain ⟨q9, hq9, h⟩ := bw_bd h
  refine rw_callV0 dX10_takesPart_115 ln_RX10_293 mv_X10_go (sh_m w) (bw_kl (by decide)) (ct_X10_go hq9) (Nat.le_of_ble_eq_true rfl) (Nat.le_of_ble_eq_true rfl) (bw_kkv ?_)
  refine rw_iconst (v := 1) dX10_takesPart_118 (by decide) ?_
  have h := Option.some.inj h
  subst h
  exact rw_zret dX10_takesPart_119 bw_n1 ⟨rfl, rfl, bw_n1⟩
set_option maxRecDepth 20000 in
set_option maxHeartbeats 1000000 in
theorem th_X10_takesPart_J52 {w : WE} {M : Mem} {out : Int32 × Mem} (h : f_X10_takesPart_J52 M = some out) : RW w 2 0 0 0 0 cX10_takesPart RX10 2 (some .boolean) (bw_Z w (bw_pz (out.1) out.2)) 52 [(0, .ref (bw_ad w 93))] [] M := by
  unfold f_X10_takesPart_J52 at h
  refine rw_aload_n dX10_takesPart_52 rfl rfl ?_
  refine rw_get dX10_takesPart_53 fl_RX10_69 (sh_m w) (bw_kl (by decide)) rfl ?_
  refine rw_aload_n dX10_takesPart_56 rfl rfl ?_
  refine rw_get dX10_takesPart_57 fl_RX10_302 (sh_m w) (bw_kl (by decide)) rfl ?_
  refine rw_aload_n dX10_takesPart_60 rfl rfl ?_
  refine rw_get dX10_takesPart_61 fl_RX10_278 (sh_m w) (bw_kl (by decide)) rfl ?_
  refine rw_iconst (v := 2) dX10_takesPart_64 (by decide) ?_
  refine rw_icmp_ne (tgt := 75) dX10_takesPart_65 (by decide) (fun c3 => ?_) (fun c3 => ?_)
  · have h := bw_if c3 h
    refine rw_sipush (v := 10000) dX10_takesPart_75 (by decide) ?_
    refine rw_aload_n dX10_takesPart_78 rfl rfl ?_
    refine rw_aload_n dX10_takesPart_79 rfl rfl ?_
    refine rw_get dX10_takesPart_80 fl_RX10_284 (sh_m w) (bw_kl (by decide)) rfl ?_
    refine rw_callV1 dX10_takesPart_83 ln_RX10_305 mv_X10_nameOf (sh_m w) (bw_kl (by decide)) (ct_X10_nameOf rfl) (Nat.le_of_ble_eq_true rfl) (Nat.le_of_ble_eq_true rfl) (bw_kki ?_)
    refine rw_iadd dX10_takesPart_86 ?_
    exact rw_sub (rw_lc rfl rw_lz) (th_X10_takesPart_J87 h)
  · have h := bw_it c3 h
    refine rw_aload_n dX10_takesPart_68 rfl rfl ?_
    refine rw_get dX10_takesPart_69 fl_RX10_284 (sh_m w) (bw_kl (by decide)) rfl ?_
    refine rw_goto (tgt := 87) dX10_takesPart_72 (by decide) ?_
    exact rw_sub (rw_lc rfl rw_lz) (th_X10_takesPart_J87 h)
set_option maxRecDepth 20000 in
set_option maxHeartbeats 1000000 in
theorem th_X10_takesPart_J37 {w : WE} {M : Mem} {s0 : Int32} {out : Int32 × Mem} (h : f_X10_takesPart_J37 M s0 = some out) : RW w 2 0 0 0 0 cX10_takesPart RX10 2 (some .boolean) (bw_Z w (bw_pz (out.1) out.2)) 37 [(0, .ref (bw_ad w 93))] [.int s0] M := by
  unfold f_X10_takesPart_J37 at h
  refine rw_istore_n dX10_takesPart_37 rfl (by decide) ?_
  refine rw_aload_n dX10_takesPart_38 rfl rfl ?_
  refine rw_get dX10_takesPart_39 fl_RX10_278 (sh_m w) (bw_kl (by decide)) rfl ?_
  refine rw_iconst (v := 2) dX10_takesPart_42 (by decide) ?_
  refine rw_icmp_eq (tgt := 52) dX10_takesPart_43 (by decide) (fun c2 => ?_) (fun c2 => ?_)
  · have h := bw_it c2 h
    exact rw_sub (rw_lc rfl rw_lz) (th_X10_takesPart_J52 h)
  · have h := bw_if c2 h
    refine rw_iload_n dX10_takesPart_46 rfl rfl ?_
    refine rw_if_ne (tgt := 52) dX10_takesPart_47 (by decide) (fun c10 => ?_) (fun c10 => ?_)
    · have h := bw_if c10 h
      exact rw_sub (rw_lc rfl rw_lz) (th_X10_takesPart_J52 h)
    · have h := bw_it c10 h
      refine rw_iconst (v := 0) dX10_takesPart_50 (by decide) ?_
      have h := Option.some.inj h
      subst h
      exact rw_zret dX10_takesPart_51 bw_n0 ⟨rfl, rfl, bw_n0⟩
set_option maxRecDepth 20000 in
set_option maxHeartbeats 1000000 in
theorem th_X10_takesPart_J36 {w : WE} {M : Mem} {out : Int32 × Mem} (h : f_X10_takesPart_J36 M = some out) : RW w 2 0 0 0 0 cX10_takesPart RX10 2 (some .boolean) (bw_Z w (bw_pz (out.1) out.2)) 36 [(0, .ref (bw_ad w 93))] [] M := by
  unfold f_X10_takesPart_J36 at h
  refine rw_iconst (v := 0) dX10_takesPart_36 (by decide) ?_
  exact rw_sub (rw_lc rfl rw_lz) (th_X10_takesPart_J37 h)
set_option maxRecDepth 20000 in
set_option maxHeartbeats 1000000 in
theorem ct_X10_takesPart {w : WE} {M : Mem} {out : Int32 × Mem} (h : f_X10_takesPart M = some out) : Ct w 2 yX10_takesPart cX10_takesPart 2 (some .boolean) [.ref (bw_ad w 93)] M (bw_pz (out.1) out.2) := by
  refine Ct.of (own := RX10) rfl (by decide) (by intro v hv; rw [List.mem_singleton.mp hv]; first | rfl | exact bw_cat_rf _) (Nat.le_of_ble_eq_true rfl) ?_
  unfold f_X10_takesPart at h
  show RW w 2 0 0 0 0 cX10_takesPart RX10 2 (some .boolean) (bw_Z w (bw_pz (out.1) out.2)) 0 [(0, .ref (bw_ad w 93))] [] M
  refine rw_aload_n dX10_takesPart_0 rfl rfl ?_
  refine rw_get dX10_takesPart_1 fl_RX10_278 (sh_m w) (bw_kl (by decide)) rfl ?_
  refine rw_iconst (v := 1) dX10_takesPart_4 (by decide) ?_
  refine rw_icmp_ne (tgt := 36) dX10_takesPart_5 (by decide) (fun c1 => ?_) (fun c1 => ?_)
  · have h := bw_if c1 h
    exact rw_sub (rw_lc rfl rw_lz) (th_X10_takesPart_J36 h)
  · have h := bw_it c1 h
    refine rw_aload_n dX10_takesPart_8 rfl rfl ?_
    refine rw_get dX10_takesPart_9 fl_RX10_269 (sh_m w) (bw_kl (by decide)) rfl ?_
    refine rw_aload_n dX10_takesPart_12 rfl rfl ?_
    refine rw_get dX10_takesPart_13 fl_RX10_272 (sh_m w) (bw_kl (by decide)) rfl ?_
    refine rw_isub dX10_takesPart_16 ?_
    refine rw_iconst (v := 1) dX10_takesPart_17 (by decide) ?_
    refine rw_icmp_ne (tgt := 36) dX10_takesPart_18 (by decide) (fun c11 => ?_) (fun c11 => ?_)
    · have h := bw_if c11 h
      exact rw_sub (rw_lc rfl rw_lz) (th_X10_takesPart_J36 h)
    · have h := bw_it c11 h
      refine rw_aload_n dX10_takesPart_21 rfl rfl ?_
      refine rw_aload_n dX10_takesPart_22 rfl rfl ?_
      refine rw_get dX10_takesPart_23 fl_RX10_284 (sh_m w) (bw_kl (by decide)) rfl ?_
      refine rw_callV1 dX10_takesPart_26 ln_RX10_305 mv_X10_nameOf (sh_m w) (bw_kl (by decide)) (ct_X10_nameOf rfl) (Nat.le_of_ble_eq_true rfl) (Nat.le_of_ble_eq_true rfl) (bw_kki ?_)
      have key : RW w 2 0 0 0 0 cX10_takesPart RX10 2 (some .boolean) (bw_Z w (bw_pz (out.1) out.2)) 37 [(0, .ref (bw_ad w 93))] [.int (if (f_X10_nameOf M (M 93 30)) < 0 then (0 : Int32) else (1 : Int32))] M := by
        exact rw_sub (rw_lc rfl rw_lz) (th_X10_takesPart_J37 h)
      refine rw_if_lt (tgt := 36) dX10_takesPart_29 (by decide) (fun c12 => ?_) (fun c12 => ?_)
      · refine rw_iconst (v := 0) dX10_takesPart_36 (by decide) ?_
        simp only [if_pos c12] at key
        exact rw_sub (rw_lc rfl rw_lz) key
      · refine rw_iconst (v := 1) dX10_takesPart_32 (by decide) ?_
        refine rw_goto (tgt := 37) dX10_takesPart_33 (by decide) ?_
        simp only [if_neg c12] at key
        exact rw_sub (rw_lc rfl rw_lz) key
set_option maxRecDepth 20000 in
set_option maxHeartbeats 1000000 in
theorem th_X10_notsOpen_L4 {w : WE} {M : Mem} {out : Int32} : ∀ (n : Nat) (v1 : Int32) (v2 : Int32), f_X10_notsOpen_L4 M n v1 v2 = some out → RW w 0 0 0 0 0 cX10_notsOpen RX10 3 (some .int) (bw_Z w (bw_pi (out) M)) 4 [(0, .ref (bw_ad w 93)), (1, .int v1), (2, .int v2)] [] M := by
  intro n
  induction n with
  | zero => intro v1 v2 h; cases h
  | succ n ih =>
    intro v1 v2 h
    rw [f_X10_notsOpen_L4] at h
    refine rw_iload_n dX10_notsOpen_4 rfl rfl ?_
    refine rw_aload_n dX10_notsOpen_5 rfl rfl ?_
    refine rw_get dX10_notsOpen_6 fl_RX10_296 (sh_m w) (bw_kl (by decide)) rfl ?_
    refine rw_icmp_ge (tgt := 37) dX10_notsOpen_9 (by decide) (fun c1 => ?_) (fun c1 => ?_)
    · have h := bw_it c1 h
      refine rw_iload_n dX10_notsOpen_37 rfl rfl ?_
      have h := Option.some.inj h
      subst h
      exact rw_iret dX10_notsOpen_38 ⟨rfl, rfl⟩
    · have h := bw_if c1 h
      refine rw_iload_n dX10_notsOpen_12 rfl rfl ?_
      refine rw_aload_n dX10_notsOpen_13 rfl rfl ?_
      refine rw_get dX10_notsOpen_14 fl_RX10_72 (sh_m w) (bw_kl (by decide)) rfl ?_
      refine rw_iload_n dX10_notsOpen_17 rfl rfl ?_
      obtain ⟨g2, h⟩ := bw_gd h
      refine rw_iald dX10_notsOpen_18 (sh_m_waits w) (bw_kl (by decide)) (bw_in g2) ?_
      refine rw_bipush (v := -10) dX10_notsOpen_19 (by decide) ?_
      have key : RW w 0 0 0 0 0 cX10_notsOpen RX10 3 (some .int) (bw_Z w (bw_pi (out) M)) 29 [(0, .ref (bw_ad w 93)), (2, .int v2)] [.int (if (M 114 v2.toNatClampNeg) = (-10 : Int32) then (1 : Int32) else (0 : Int32)), .int v1] M := by
        refine rw_iadd dX10_notsOpen_29 ?_
        obtain ⟨x4, hx4, h⟩ := bw_mlE h
        refine rw_ti hx4 ?_
        refine rw_istore_n dX10_notsOpen_30 rfl (by decide) ?_
        refine rw_inc dX10_notsOpen_31 rfl (by decide) ?_
        refine rw_goto (tgt := 4) dX10_notsOpen_34 (by decide) ?_
        exact rw_sub (rw_lc rfl (rw_lc rfl (rw_lc rfl rw_lz))) (ih x4 (v2 + 1) h)
      refine rw_icmp_ne (tgt := 28) dX10_notsOpen_21 (by decide) (fun c3 => ?_) (fun c3 => ?_)
      · refine rw_iconst (v := 0) dX10_notsOpen_28 (by decide) ?_
        simp only [if_neg c3] at key
        exact rw_sub (rw_lc rfl (rw_lc rfl rw_lz)) key
      · refine rw_iconst (v := 1) dX10_notsOpen_24 (by decide) ?_
        refine rw_goto (tgt := 29) dX10_notsOpen_25 (by decide) ?_
        simp only [if_pos c3] at key
        exact rw_sub (rw_lc rfl (rw_lc rfl rw_lz)) key
set_option maxRecDepth 20000 in
set_option maxHeartbeats 1000000 in
theorem ct_X10_notsOpen {w : WE} {M : Mem} {out : Int32} (h : f_X10_notsOpen M = some out) : Ct w 0 yX10_notsOpen cX10_notsOpen 3 (some .int) [.ref (bw_ad w 93)] M (bw_pi (out) M) := by
  refine Ct.of (own := RX10) rfl (by decide) (by intro v hv; rw [List.mem_singleton.mp hv]; first | rfl | exact bw_cat_rf _) (Nat.le_of_ble_eq_true rfl) ?_
  unfold f_X10_notsOpen at h
  show RW w 0 0 0 0 0 cX10_notsOpen RX10 3 (some .int) (bw_Z w (bw_pi (out) M)) 0 [(0, .ref (bw_ad w 93))] [] M
  refine rw_iconst (v := 0) dX10_notsOpen_0 (by decide) ?_
  refine rw_istore_n dX10_notsOpen_1 rfl (by decide) ?_
  refine rw_iconst (v := 0) dX10_notsOpen_2 (by decide) ?_
  refine rw_istore_n dX10_notsOpen_3 rfl (by decide) ?_
  exact rw_sub (rw_lc rfl (rw_lc rfl (rw_lc rfl rw_lz))) (th_X10_notsOpen_L4 bw_fu (0 : Int32) (0 : Int32) h)
set_option maxRecDepth 20000 in
set_option maxHeartbeats 1000000 in
theorem th_X10_takesE_L28 {w : WE} {out : Int32 × Mem} : ∀ (n : Nat) (v1 : Int32) (v2 : Int32) (v3 : Int32) (M : Mem), f_X10_takesE_L28 n v1 v2 v3 M = some out → RW w 3 0 0 0 0 cX10_takesE RX10 5 (some .boolean) (bw_Z w (bw_pz (out.1) out.2)) 28 [(0, .ref (bw_ad w 93)), (1, .int v1), (2, .int v2), (3, .int v3)] [] M := by
  intro n
  induction n with
  | zero => intro v1 v2 v3 M h; cases h
  | succ n ih =>
    intro v1 v2 v3 M h
    rw [f_X10_takesE_L28] at h
    refine rw_iload_n dX10_takesE_28 rfl rfl ?_
    refine rw_if_ne (tgt := 39) dX10_takesE_29 (by decide) (fun c5 => ?_) (fun c5 => ?_)
    · have h := bw_if c5 h
      refine rw_iload_n dX10_takesE_39 rfl rfl ?_
      refine rw_if_eq (tgt := 180) dX10_takesE_40 (by decide) (fun c6 => ?_) (fun c6 => ?_)
      · have h := bw_it c6 h
        refine rw_aload_n dX10_takesE_180 rfl rfl ?_
        refine rw_get dX10_takesE_181 fl_RX10_278 (sh_m w) (bw_kl (by decide)) rfl ?_
        refine rw_iconst (v := 3) dX10_takesE_184 (by decide) ?_
        refine rw_icmp_ne (tgt := 237) dX10_takesE_185 (by decide) (fun c7 => ?_) (fun c7 => ?_)
        · have h := bw_if c7 h
          refine rw_aload_n dX10_takesE_237 rfl rfl ?_
          refine rw_callV0 dX10_takesE_238 ln_RX10_322 mv_X10_signHere (sh_m w) (bw_kl (by decide)) (ct_X10_signHere rfl) (Nat.le_of_ble_eq_true rfl) (Nat.le_of_ble_eq_true rfl) (bw_kki ?_)
          refine rw_istore dX10_takesE_241 (by decide) ?_
          refine rw_iload dX10_takesE_243 rfl ?_
          refine rw_if_eq (tgt := 266) dX10_takesE_245 (by decide) (fun c8 => ?_) (fun c8 => ?_)
          · have h := bw_it c8 h
            refine rw_iconst (v := 0) dX10_takesE_266 (by decide) ?_
            have h := Option.some.inj h
            subst h
            exact rw_zret dX10_takesE_267 bw_n0 ⟨rfl, rfl, bw_n0⟩
          · have h := bw_if c8 h
            refine rw_iload dX10_takesE_248 rfl ?_
            refine rw_callS1 dX10_takesE_250 ln_RX10_299 ms_X10_rank (ct_X10_rank rfl) (Nat.le_of_ble_eq_true rfl) (Nat.le_of_ble_eq_true rfl) (bw_kki ?_)
            refine rw_iconst (v := 3) dX10_takesE_253 (by decide) ?_
            refine rw_icmp_ne (tgt := 268) dX10_takesE_254 (by decide) (fun c9 => ?_) (fun c9 => ?_)
            · have h := bw_if c9 h
              refine rw_aload_n dX10_takesE_268 rfl rfl ?_
              refine rw_get dX10_takesE_269 fl_RX10_75 (sh_m w) (bw_kl (by decide)) rfl ?_
              refine rw_iload_n dX10_takesE_272 rfl rfl ?_
              refine rw_iload dX10_takesE_273 rfl ?_
              refine rw_callS1 dX10_takesE_275 ln_RX10_299 ms_X10_rank (ct_X10_rank rfl) (Nat.le_of_ble_eq_true rfl) (Nat.le_of_ble_eq_true rfl) (bw_kki ?_)
              refine rw_iconst (v := 3) dX10_takesE_278 (by decide) ?_
              refine rw_icmp_eq (tgt := 300) dX10_takesE_279 (by decide) (fun c10 => ?_) (fun c10 => ?_)
              · have h := bw_it c10 h
                refine rw_iconst (v := 1) dX10_takesE_300 (by decide) ?_
                refine rw_goto (tgt := 305) dX10_takesE_301 (by decide) ?_
                obtain ⟨g11, h⟩ := bw_gd h
                refine rw_zast dX10_takesE_305 (sh_m_tested w) (bw_kl (by decide)) (bw_in g11) ?_
                obtain ⟨M12, hM12, h⟩ := bw_mlE h
                refine rw_m hM12.symm ?_
                refine rw_aload_n dX10_takesE_306 rfl rfl ?_
                refine rw_iload dX10_takesE_307 rfl ?_
                refine rw_callS1 dX10_takesE_309 ln_RX10_299 ms_X10_rank (ct_X10_rank rfl) (Nat.le_of_ble_eq_true rfl) (Nat.le_of_ble_eq_true rfl) (bw_kki ?_)
                obtain ⟨q13, hq13, h⟩ := bw_bd h
                refine rw_callV1 dX10_takesE_312 ln_RX10_311 mv_X10_settle (sh_m w) (bw_kl (by decide)) (ct_X10_settle hq13) (Nat.le_of_ble_eq_true rfl) (Nat.le_of_ble_eq_true rfl) (bw_kkv ?_)
                refine rw_aload_n dX10_takesE_315 rfl rfl ?_
                refine rw_get dX10_takesE_316 fl_RX10_72 (sh_m w) (bw_kl (by decide)) rfl ?_
                refine rw_aload_n dX10_takesE_319 rfl rfl ?_
                refine rw_get dX10_takesE_320 fl_RX10_296 (sh_m w) (bw_kl (by decide)) rfl ?_
                refine rw_iload dX10_takesE_323 rfl ?_
                obtain ⟨g14, h⟩ := bw_gd h
                refine rw_iast dX10_takesE_325 (sh_m_waits w) (bw_kl (by decide)) (bw_in g14) ?_
                obtain ⟨M15, hM15, h⟩ := bw_mlE h
                refine rw_m hM15.symm ?_
                refine rw_aload_n dX10_takesE_326 rfl rfl ?_
                refine rw_dup dX10_takesE_327 rfl ?_
                refine rw_get dX10_takesE_328 fl_RX10_296 (sh_m w) (bw_kl (by decide)) rfl ?_
                refine rw_iconst (v := 1) dX10_takesE_331 (by decide) ?_
                refine rw_iadd dX10_takesE_332 ?_
                refine rw_puti dX10_takesE_333 fl_RX10_296 fp_10_39 (sh_m w) (bw_kl (by decide)) (by decide) (fun _ => rfl) (fun _ => Nat.le_of_ble_eq_true rfl) ?_
                obtain ⟨M16, hM16, h⟩ := bw_mlE h
                refine rw_m hM16.symm ?_
                refine rw_iconst (v := 1) dX10_takesE_336 (by decide) ?_
                refine rw_istore_n dX10_takesE_337 rfl (by decide) ?_
                refine rw_aload_n dX10_takesE_338 rfl rfl ?_
                obtain ⟨q17, hq17, h⟩ := bw_bd h
                refine rw_callV0 dX10_takesE_339 ln_RX10_293 mv_X10_go (sh_m w) (bw_kl (by decide)) (ct_X10_go hq17) (Nat.le_of_ble_eq_true rfl) (Nat.le_of_ble_eq_true rfl) (bw_kkv ?_)
                refine rw_goto (tgt := 28) dX10_takesE_342 (by decide) ?_
                exact rw_sub (rw_lc rfl (rw_lc rfl (rw_lc rfl (rw_lc rfl rw_lz)))) (ih v1 v2 (1 : Int32) q17 h)
              · have h := bw_if c10 h
                refine rw_iload dX10_takesE_282 rfl ?_
                refine rw_callS1 dX10_takesE_284 ln_RX10_299 ms_X10_rank (ct_X10_rank rfl) (Nat.le_of_ble_eq_true rfl) (Nat.le_of_ble_eq_true rfl) (bw_kki ?_)
                refine rw_iconst (v := 3) dX10_takesE_287 (by decide) ?_
                refine rw_icmp_le (tgt := 304) dX10_takesE_288 (by decide) (fun c18 => ?_) (fun c18 => ?_)
                · have h := bw_it c18 h
                  refine rw_iconst (v := 0) dX10_takesE_304 (by decide) ?_
                  obtain ⟨g19, h⟩ := bw_gd h
                  refine rw_zast dX10_takesE_305 (sh_m_tested w) (bw_kl (by decide)) (bw_in g19) ?_
                  obtain ⟨M20, hM20, h⟩ := bw_mlE h
                  refine rw_m hM20.symm ?_
                  refine rw_aload_n dX10_takesE_306 rfl rfl ?_
                  refine rw_iload dX10_takesE_307 rfl ?_
                  refine rw_callS1 dX10_takesE_309 ln_RX10_299 ms_X10_rank (ct_X10_rank rfl) (Nat.le_of_ble_eq_true rfl) (Nat.le_of_ble_eq_true rfl) (bw_kki ?_)
                  obtain ⟨q21, hq21, h⟩ := bw_bd h
                  refine rw_callV1 dX10_takesE_312 ln_RX10_311 mv_X10_settle (sh_m w) (bw_kl (by decide)) (ct_X10_settle hq21) (Nat.le_of_ble_eq_true rfl) (Nat.le_of_ble_eq_true rfl) (bw_kkv ?_)
                  refine rw_aload_n dX10_takesE_315 rfl rfl ?_
                  refine rw_get dX10_takesE_316 fl_RX10_72 (sh_m w) (bw_kl (by decide)) rfl ?_
                  refine rw_aload_n dX10_takesE_319 rfl rfl ?_
                  refine rw_get dX10_takesE_320 fl_RX10_296 (sh_m w) (bw_kl (by decide)) rfl ?_
                  refine rw_iload dX10_takesE_323 rfl ?_
                  obtain ⟨g22, h⟩ := bw_gd h
                  refine rw_iast dX10_takesE_325 (sh_m_waits w) (bw_kl (by decide)) (bw_in g22) ?_
                  obtain ⟨M23, hM23, h⟩ := bw_mlE h
                  refine rw_m hM23.symm ?_
                  refine rw_aload_n dX10_takesE_326 rfl rfl ?_
                  refine rw_dup dX10_takesE_327 rfl ?_
                  refine rw_get dX10_takesE_328 fl_RX10_296 (sh_m w) (bw_kl (by decide)) rfl ?_
                  refine rw_iconst (v := 1) dX10_takesE_331 (by decide) ?_
                  refine rw_iadd dX10_takesE_332 ?_
                  refine rw_puti dX10_takesE_333 fl_RX10_296 fp_10_39 (sh_m w) (bw_kl (by decide)) (by decide) (fun _ => rfl) (fun _ => Nat.le_of_ble_eq_true rfl) ?_
                  obtain ⟨M24, hM24, h⟩ := bw_mlE h
                  refine rw_m hM24.symm ?_
                  refine rw_iconst (v := 1) dX10_takesE_336 (by decide) ?_
                  refine rw_istore_n dX10_takesE_337 rfl (by decide) ?_
                  refine rw_aload_n dX10_takesE_338 rfl rfl ?_
                  obtain ⟨q25, hq25, h⟩ := bw_bd h
                  refine rw_callV0 dX10_takesE_339 ln_RX10_293 mv_X10_go (sh_m w) (bw_kl (by decide)) (ct_X10_go hq25) (Nat.le_of_ble_eq_true rfl) (Nat.le_of_ble_eq_true rfl) (bw_kkv ?_)
                  refine rw_goto (tgt := 28) dX10_takesE_342 (by decide) ?_
                  exact rw_sub (rw_lc rfl (rw_lc rfl (rw_lc rfl (rw_lc rfl rw_lz)))) (ih v1 v2 (1 : Int32) q25 h)
                · have h := bw_if c18 h
                  refine rw_aload_n dX10_takesE_291 rfl rfl ?_
                  refine rw_get dX10_takesE_292 fl_RX10_75 (sh_m w) (bw_kl (by decide)) rfl ?_
                  refine rw_iload_n dX10_takesE_295 rfl rfl ?_
                  obtain ⟨g26, h⟩ := bw_gd h
                  refine rw_zald dX10_takesE_296 (sh_m_tested w) (bw_kl (by decide)) (bw_in g26) ?_
                  have key : RW w 3 0 0 0 0 cX10_takesE RX10 5 (some .boolean) (bw_Z w (bw_pz (out.1) out.2)) 305 [(0, .ref (bw_ad w 93)), (1, .int v1), (2, .int v2), (4, .int (f_X10_signHere M))] [.int (if (M 115 v1.toNatClampNeg) = 0 then (0 : Int32) else (1 : Int32)), .int v1, .ref (bw_ad w 115)] M := by
                    refine rw_zast dX10_takesE_305 (sh_m_tested w) (bw_kl (by decide)) (bw_in g26) ?_
                    obtain ⟨M28, hM28, h⟩ := bw_mlE h
                    refine rw_m hM28.symm ?_
                    refine rw_aload_n dX10_takesE_306 rfl rfl ?_
                    refine rw_iload dX10_takesE_307 rfl ?_
                    refine rw_callS1 dX10_takesE_309 ln_RX10_299 ms_X10_rank (ct_X10_rank rfl) (Nat.le_of_ble_eq_true rfl) (Nat.le_of_ble_eq_true rfl) (bw_kki ?_)
                    obtain ⟨q29, hq29, h⟩ := bw_bd h
                    refine rw_callV1 dX10_takesE_312 ln_RX10_311 mv_X10_settle (sh_m w) (bw_kl (by decide)) (ct_X10_settle hq29) (Nat.le_of_ble_eq_true rfl) (Nat.le_of_ble_eq_true rfl) (bw_kkv ?_)
                    refine rw_aload_n dX10_takesE_315 rfl rfl ?_
                    refine rw_get dX10_takesE_316 fl_RX10_72 (sh_m w) (bw_kl (by decide)) rfl ?_
                    refine rw_aload_n dX10_takesE_319 rfl rfl ?_
                    refine rw_get dX10_takesE_320 fl_RX10_296 (sh_m w) (bw_kl (by decide)) rfl ?_
                    refine rw_iload dX10_takesE_323 rfl ?_
                    obtain ⟨g30, h⟩ := bw_gd h
                    refine rw_iast dX10_takesE_325 (sh_m_waits w) (bw_kl (by decide)) (bw_in g30) ?_
                    obtain ⟨M31, hM31, h⟩ := bw_mlE h
                    refine rw_m hM31.symm ?_
                    refine rw_aload_n dX10_takesE_326 rfl rfl ?_
                    refine rw_dup dX10_takesE_327 rfl ?_
                    refine rw_get dX10_takesE_328 fl_RX10_296 (sh_m w) (bw_kl (by decide)) rfl ?_
                    refine rw_iconst (v := 1) dX10_takesE_331 (by decide) ?_
                    refine rw_iadd dX10_takesE_332 ?_
                    refine rw_puti dX10_takesE_333 fl_RX10_296 fp_10_39 (sh_m w) (bw_kl (by decide)) (by decide) (fun _ => rfl) (fun _ => Nat.le_of_ble_eq_true rfl) ?_
                    obtain ⟨M32, hM32, h⟩ := bw_mlE h
                    refine rw_m hM32.symm ?_
                    refine rw_iconst (v := 1) dX10_takesE_336 (by decide) ?_
                    refine rw_istore_n dX10_takesE_337 rfl (by decide) ?_
                    refine rw_aload_n dX10_takesE_338 rfl rfl ?_
                    obtain ⟨q33, hq33, h⟩ := bw_bd h
                    refine rw_callV0 dX10_takesE_339 ln_RX10_293 mv_X10_go (sh_m w) (bw_kl (by decide)) (ct_X10_go hq33) (Nat.le_of_ble_eq_true rfl) (Nat.le_of_ble_eq_true rfl) (bw_kkv ?_)
                    refine rw_goto (tgt := 28) dX10_takesE_342 (by decide) ?_
                    exact rw_sub (rw_lc rfl (rw_lc rfl (rw_lc rfl (rw_lc rfl rw_lz)))) (ih v1 v2 (1 : Int32) q33 h)
                  refine rw_if_eq (tgt := 304) dX10_takesE_297 (by decide) (fun c27 => ?_) (fun c27 => ?_)
                  · refine rw_iconst (v := 0) dX10_takesE_304 (by decide) ?_
                    simp only [if_pos c27] at key
                    exact rw_sub (rw_lc rfl (rw_lc rfl (rw_lc rfl (rw_lc rfl rw_lz)))) key
                  · refine rw_iconst (v := 1) dX10_takesE_300 (by decide) ?_
                    refine rw_goto (tgt := 305) dX10_takesE_301 (by decide) ?_
                    simp only [if_neg c27] at key
                    exact rw_sub (rw_lc rfl (rw_lc rfl (rw_lc rfl (rw_lc rfl rw_lz)))) key
            · have h := bw_it c9 h
              refine rw_aload_n dX10_takesE_257 rfl rfl ?_
              refine rw_get dX10_takesE_258 fl_RX10_75 (sh_m w) (bw_kl (by decide)) rfl ?_
              refine rw_iload_n dX10_takesE_261 rfl rfl ?_
              obtain ⟨g34, h⟩ := bw_gd h
              refine rw_zald dX10_takesE_262 (sh_m_tested w) (bw_kl (by decide)) (bw_in g34) ?_
              refine rw_if_eq (tgt := 268) dX10_takesE_263 (by decide) (fun c35 => ?_) (fun c35 => ?_)
              · have h := bw_it c35 h
                refine rw_aload_n dX10_takesE_268 rfl rfl ?_
                refine rw_get dX10_takesE_269 fl_RX10_75 (sh_m w) (bw_kl (by decide)) rfl ?_
                refine rw_iload_n dX10_takesE_272 rfl rfl ?_
                refine rw_iload dX10_takesE_273 rfl ?_
                refine rw_callS1 dX10_takesE_275 ln_RX10_299 ms_X10_rank (ct_X10_rank rfl) (Nat.le_of_ble_eq_true rfl) (Nat.le_of_ble_eq_true rfl) (bw_kki ?_)
                refine rw_iconst (v := 3) dX10_takesE_278 (by decide) ?_
                refine rw_icmp_eq (tgt := 300) dX10_takesE_279 (by decide) (fun c36 => ?_) (fun c36 => ?_)
                · have h := bw_it c36 h
                  refine rw_iconst (v := 1) dX10_takesE_300 (by decide) ?_
                  refine rw_goto (tgt := 305) dX10_takesE_301 (by decide) ?_
                  refine rw_zast dX10_takesE_305 (sh_m_tested w) (bw_kl (by decide)) (bw_in g34) ?_
                  obtain ⟨M37, hM37, h⟩ := bw_mlE h
                  refine rw_m hM37.symm ?_
                  refine rw_aload_n dX10_takesE_306 rfl rfl ?_
                  refine rw_iload dX10_takesE_307 rfl ?_
                  refine rw_callS1 dX10_takesE_309 ln_RX10_299 ms_X10_rank (ct_X10_rank rfl) (Nat.le_of_ble_eq_true rfl) (Nat.le_of_ble_eq_true rfl) (bw_kki ?_)
                  obtain ⟨q38, hq38, h⟩ := bw_bd h
                  refine rw_callV1 dX10_takesE_312 ln_RX10_311 mv_X10_settle (sh_m w) (bw_kl (by decide)) (ct_X10_settle hq38) (Nat.le_of_ble_eq_true rfl) (Nat.le_of_ble_eq_true rfl) (bw_kkv ?_)
                  refine rw_aload_n dX10_takesE_315 rfl rfl ?_
                  refine rw_get dX10_takesE_316 fl_RX10_72 (sh_m w) (bw_kl (by decide)) rfl ?_
                  refine rw_aload_n dX10_takesE_319 rfl rfl ?_
                  refine rw_get dX10_takesE_320 fl_RX10_296 (sh_m w) (bw_kl (by decide)) rfl ?_
                  refine rw_iload dX10_takesE_323 rfl ?_
                  obtain ⟨g39, h⟩ := bw_gd h
                  refine rw_iast dX10_takesE_325 (sh_m_waits w) (bw_kl (by decide)) (bw_in g39) ?_
                  obtain ⟨M40, hM40, h⟩ := bw_mlE h
                  refine rw_m hM40.symm ?_
                  refine rw_aload_n dX10_takesE_326 rfl rfl ?_
                  refine rw_dup dX10_takesE_327 rfl ?_
                  refine rw_get dX10_takesE_328 fl_RX10_296 (sh_m w) (bw_kl (by decide)) rfl ?_
                  refine rw_iconst (v := 1) dX10_takesE_331 (by decide) ?_
                  refine rw_iadd dX10_takesE_332 ?_
                  refine rw_puti dX10_takesE_333 fl_RX10_296 fp_10_39 (sh_m w) (bw_kl (by decide)) (by decide) (fun _ => rfl) (fun _ => Nat.le_of_ble_eq_true rfl) ?_
                  obtain ⟨M41, hM41, h⟩ := bw_mlE h
                  refine rw_m hM41.symm ?_
                  refine rw_iconst (v := 1) dX10_takesE_336 (by decide) ?_
                  refine rw_istore_n dX10_takesE_337 rfl (by decide) ?_
                  refine rw_aload_n dX10_takesE_338 rfl rfl ?_
                  obtain ⟨q42, hq42, h⟩ := bw_bd h
                  refine rw_callV0 dX10_takesE_339 ln_RX10_293 mv_X10_go (sh_m w) (bw_kl (by decide)) (ct_X10_go hq42) (Nat.le_of_ble_eq_true rfl) (Nat.le_of_ble_eq_true rfl) (bw_kkv ?_)
                  refine rw_goto (tgt := 28) dX10_takesE_342 (by decide) ?_
                  exact rw_sub (rw_lc rfl (rw_lc rfl (rw_lc rfl (rw_lc rfl rw_lz)))) (ih v1 v2 (1 : Int32) q42 h)
                · have h := bw_if c36 h
                  refine rw_iload dX10_takesE_282 rfl ?_
                  refine rw_callS1 dX10_takesE_284 ln_RX10_299 ms_X10_rank (ct_X10_rank rfl) (Nat.le_of_ble_eq_true rfl) (Nat.le_of_ble_eq_true rfl) (bw_kki ?_)
                  refine rw_iconst (v := 3) dX10_takesE_287 (by decide) ?_
                  have key : RW w 3 0 0 0 0 cX10_takesE RX10 5 (some .boolean) (bw_Z w (bw_pz (out.1) out.2)) 305 [(0, .ref (bw_ad w 93)), (1, .int v1), (2, .int v2), (4, .int (f_X10_signHere M))] [.int (if (f_X10_rank (f_X10_signHere M)) ≤ (3 : Int32) then (0 : Int32) else (if (M 115 v1.toNatClampNeg) = 0 then (0 : Int32) else (1 : Int32))), .int v1, .ref (bw_ad w 115)] M := by
                    refine rw_zast dX10_takesE_305 (sh_m_tested w) (bw_kl (by decide)) (bw_in g34) ?_
                    obtain ⟨M45, hM45, h⟩ := bw_mlE h
                    refine rw_m hM45.symm ?_
                    refine rw_aload_n dX10_takesE_306 rfl rfl ?_
                    refine rw_iload dX10_takesE_307 rfl ?_
                    refine rw_callS1 dX10_takesE_309 ln_RX10_299 ms_X10_rank (ct_X10_rank rfl) (Nat.le_of_ble_eq_true rfl) (Nat.le_of_ble_eq_true rfl) (bw_kki ?_)
                    obtain ⟨q46, hq46, h⟩ := bw_bd h
                    refine rw_callV1 dX10_takesE_312 ln_RX10_311 mv_X10_settle (sh_m w) (bw_kl (by decide)) (ct_X10_settle hq46) (Nat.le_of_ble_eq_true rfl) (Nat.le_of_ble_eq_true rfl) (bw_kkv ?_)
                    refine rw_aload_n dX10_takesE_315 rfl rfl ?_
                    refine rw_get dX10_takesE_316 fl_RX10_72 (sh_m w) (bw_kl (by decide)) rfl ?_
                    refine rw_aload_n dX10_takesE_319 rfl rfl ?_
                    refine rw_get dX10_takesE_320 fl_RX10_296 (sh_m w) (bw_kl (by decide)) rfl ?_
                    refine rw_iload dX10_takesE_323 rfl ?_
                    obtain ⟨g47, h⟩ := bw_gd h
                    refine rw_iast dX10_takesE_325 (sh_m_waits w) (bw_kl (by decide)) (bw_in g47) ?_
                    obtain ⟨M48, hM48, h⟩ := bw_mlE h
                    refine rw_m hM48.symm ?_
                    refine rw_aload_n dX10_takesE_326 rfl rfl ?_
                    refine rw_dup dX10_takesE_327 rfl ?_
                    refine rw_get dX10_takesE_328 fl_RX10_296 (sh_m w) (bw_kl (by decide)) rfl ?_
                    refine rw_iconst (v := 1) dX10_takesE_331 (by decide) ?_
                    refine rw_iadd dX10_takesE_332 ?_
                    refine rw_puti dX10_takesE_333 fl_RX10_296 fp_10_39 (sh_m w) (bw_kl (by decide)) (by decide) (fun _ => rfl) (fun _ => Nat.le_of_ble_eq_true rfl) ?_
                    obtain ⟨M49, hM49, h⟩ := bw_mlE h
                    refine rw_m hM49.symm ?_
                    refine rw_iconst (v := 1) dX10_takesE_336 (by decide) ?_
                    refine rw_istore_n dX10_takesE_337 rfl (by decide) ?_
                    refine rw_aload_n dX10_takesE_338 rfl rfl ?_
                    obtain ⟨q50, hq50, h⟩ := bw_bd h
                    refine rw_callV0 dX10_takesE_339 ln_RX10_293 mv_X10_go (sh_m w) (bw_kl (by decide)) (ct_X10_go hq50) (Nat.le_of_ble_eq_true rfl) (Nat.le_of_ble_eq_true rfl) (bw_kkv ?_)
                    refine rw_goto (tgt := 28) dX10_takesE_342 (by decide) ?_
                    exact rw_sub (rw_lc rfl (rw_lc rfl (rw_lc rfl (rw_lc rfl rw_lz)))) (ih v1 v2 (1 : Int32) q50 h)
                  refine rw_icmp_le (tgt := 304) dX10_takesE_288 (by decide) (fun c43 => ?_) (fun c43 => ?_)
                  · refine rw_iconst (v := 0) dX10_takesE_304 (by decide) ?_
                    simp only [if_pos c43] at key
                    exact rw_sub (rw_lc rfl (rw_lc rfl (rw_lc rfl (rw_lc rfl rw_lz)))) key
                  · refine rw_aload_n dX10_takesE_291 rfl rfl ?_
                    refine rw_get dX10_takesE_292 fl_RX10_75 (sh_m w) (bw_kl (by decide)) rfl ?_
                    refine rw_iload_n dX10_takesE_295 rfl rfl ?_
                    refine rw_zald dX10_takesE_296 (sh_m_tested w) (bw_kl (by decide)) (bw_in g34) ?_
                    refine rw_if_eq (tgt := 304) dX10_takesE_297 (by decide) (fun c44 => ?_) (fun c44 => ?_)
                    · refine rw_iconst (v := 0) dX10_takesE_304 (by decide) ?_
                      simp only [if_neg c43, if_pos c44] at key
                      exact rw_sub (rw_lc rfl (rw_lc rfl (rw_lc rfl (rw_lc rfl rw_lz)))) key
                    · refine rw_iconst (v := 1) dX10_takesE_300 (by decide) ?_
                      refine rw_goto (tgt := 305) dX10_takesE_301 (by decide) ?_
                      simp only [if_neg c43, if_neg c44] at key
                      exact rw_sub (rw_lc rfl (rw_lc rfl (rw_lc rfl (rw_lc rfl rw_lz)))) key
              · have h := bw_if c35 h
                refine rw_iconst (v := 0) dX10_takesE_266 (by decide) ?_
                have h := Option.some.inj h
                subst h
                exact rw_zret dX10_takesE_267 bw_n0 ⟨rfl, rfl, bw_n0⟩
        · have h := bw_it c7 h
          refine rw_aload_n dX10_takesE_188 rfl rfl ?_
          refine rw_get dX10_takesE_189 fl_RX10_284 (sh_m w) (bw_kl (by decide)) rfl ?_
          refine rw_bipush (v := 41) dX10_takesE_192 (by decide) ?_
          refine rw_icmp_ne (tgt := 237) dX10_takesE_194 (by decide) (fun c51 => ?_) (fun c51 => ?_)
          · have h := bw_if c51 h
            refine rw_aload_n dX10_takesE_237 rfl rfl ?_
            refine rw_callV0 dX10_takesE_238 ln_RX10_322 mv_X10_signHere (sh_m w) (bw_kl (by decide)) (ct_X10_signHere rfl) (Nat.le_of_ble_eq_true rfl) (Nat.le_of_ble_eq_true rfl) (bw_kki ?_)
            refine rw_istore dX10_takesE_241 (by decide) ?_
            refine rw_iload dX10_takesE_243 rfl ?_
            refine rw_if_eq (tgt := 266) dX10_takesE_245 (by decide) (fun c52 => ?_) (fun c52 => ?_)
            · have h := bw_it c52 h
              refine rw_iconst (v := 0) dX10_takesE_266 (by decide) ?_
              have h := Option.some.inj h
              subst h
              exact rw_zret dX10_takesE_267 bw_n0 ⟨rfl, rfl, bw_n0⟩
            · have h := bw_if c52 h
              refine rw_iload dX10_takesE_248 rfl ?_
              refine rw_callS1 dX10_takesE_250 ln_RX10_299 ms_X10_rank (ct_X10_rank rfl) (Nat.le_of_ble_eq_true rfl) (Nat.le_of_ble_eq_true rfl) (bw_kki ?_)
              refine rw_iconst (v := 3) dX10_takesE_253 (by decide) ?_
              refine rw_icmp_ne (tgt := 268) dX10_takesE_254 (by decide) (fun c53 => ?_) (fun c53 => ?_)
              · have h := bw_if c53 h
                refine rw_aload_n dX10_takesE_268 rfl rfl ?_
                refine rw_get dX10_takesE_269 fl_RX10_75 (sh_m w) (bw_kl (by decide)) rfl ?_
                refine rw_iload_n dX10_takesE_272 rfl rfl ?_
                refine rw_iload dX10_takesE_273 rfl ?_
                refine rw_callS1 dX10_takesE_275 ln_RX10_299 ms_X10_rank (ct_X10_rank rfl) (Nat.le_of_ble_eq_true rfl) (Nat.le_of_ble_eq_true rfl) (bw_kki ?_)
                refine rw_iconst (v := 3) dX10_takesE_278 (by decide) ?_
                refine rw_icmp_eq (tgt := 300) dX10_takesE_279 (by decide) (fun c54 => ?_) (fun c54 => ?_)
                · have h := bw_it c54 h
                  refine rw_iconst (v := 1) dX10_takesE_300 (by decide) ?_
                  refine rw_goto (tgt := 305) dX10_takesE_301 (by decide) ?_
                  obtain ⟨g55, h⟩ := bw_gd h
                  refine rw_zast dX10_takesE_305 (sh_m_tested w) (bw_kl (by decide)) (bw_in g55) ?_
                  obtain ⟨M56, hM56, h⟩ := bw_mlE h
                  refine rw_m hM56.symm ?_
                  refine rw_aload_n dX10_takesE_306 rfl rfl ?_
                  refine rw_iload dX10_takesE_307 rfl ?_
                  refine rw_callS1 dX10_takesE_309 ln_RX10_299 ms_X10_rank (ct_X10_rank rfl) (Nat.le_of_ble_eq_true rfl) (Nat.le_of_ble_eq_true rfl) (bw_kki ?_)
                  obtain ⟨q57, hq57, h⟩ := bw_bd h
                  refine rw_callV1 dX10_takesE_312 ln_RX10_311 mv_X10_settle (sh_m w) (bw_kl (by decide)) (ct_X10_settle hq57) (Nat.le_of_ble_eq_true rfl) (Nat.le_of_ble_eq_true rfl) (bw_kkv ?_)
                  refine rw_aload_n dX10_takesE_315 rfl rfl ?_
                  refine rw_get dX10_takesE_316 fl_RX10_72 (sh_m w) (bw_kl (by decide)) rfl ?_
                  refine rw_aload_n dX10_takesE_319 rfl rfl ?_
                  refine rw_get dX10_takesE_320 fl_RX10_296 (sh_m w) (bw_kl (by decide)) rfl ?_
                  refine rw_iload dX10_takesE_323 rfl ?_
                  obtain ⟨g58, h⟩ := bw_gd h
                  refine rw_iast dX10_takesE_325 (sh_m_waits w) (bw_kl (by decide)) (bw_in g58) ?_
                  obtain ⟨M59, hM59, h⟩ := bw_mlE h
                  refine rw_m hM59.symm ?_
                  refine rw_aload_n dX10_takesE_326 rfl rfl ?_
                  refine rw_dup dX10_takesE_327 rfl ?_
                  refine rw_get dX10_takesE_328 fl_RX10_296 (sh_m w) (bw_kl (by decide)) rfl ?_
                  refine rw_iconst (v := 1) dX10_takesE_331 (by decide) ?_
                  refine rw_iadd dX10_takesE_332 ?_
                  refine rw_puti dX10_takesE_333 fl_RX10_296 fp_10_39 (sh_m w) (bw_kl (by decide)) (by decide) (fun _ => rfl) (fun _ => Nat.le_of_ble_eq_true rfl) ?_
                  obtain ⟨M60, hM60, h⟩ := bw_mlE h
                  refine rw_m hM60.symm ?_
                  refine rw_iconst (v := 1) dX10_takesE_336 (by decide) ?_
                  refine rw_istore_n dX10_takesE_337 rfl (by decide) ?_
                  refine rw_aload_n dX10_takesE_338 rfl rfl ?_
                  obtain ⟨q61, hq61, h⟩ := bw_bd h
                  refine rw_callV0 dX10_takesE_339 ln_RX10_293 mv_X10_go (sh_m w) (bw_kl (by decide)) (ct_X10_go hq61) (Nat.le_of_ble_eq_true rfl) (Nat.le_of_ble_eq_true rfl) (bw_kkv ?_)
                  refine rw_goto (tgt := 28) dX10_takesE_342 (by decide) ?_
                  exact rw_sub (rw_lc rfl (rw_lc rfl (rw_lc rfl (rw_lc rfl rw_lz)))) (ih v1 v2 (1 : Int32) q61 h)
                · have h := bw_if c54 h
                  refine rw_iload dX10_takesE_282 rfl ?_
                  refine rw_callS1 dX10_takesE_284 ln_RX10_299 ms_X10_rank (ct_X10_rank rfl) (Nat.le_of_ble_eq_true rfl) (Nat.le_of_ble_eq_true rfl) (bw_kki ?_)
                  refine rw_iconst (v := 3) dX10_takesE_287 (by decide) ?_
                  refine rw_icmp_le (tgt := 304) dX10_takesE_288 (by decide) (fun c62 => ?_) (fun c62 => ?_)
                  · have h := bw_it c62 h
                    refine rw_iconst (v := 0) dX10_takesE_304 (by decide) ?_
                    obtain ⟨g63, h⟩ := bw_gd h
                    refine rw_zast dX10_takesE_305 (sh_m_tested w) (bw_kl (by decide)) (bw_in g63) ?_
                    obtain ⟨M64, hM64, h⟩ := bw_mlE h
                    refine rw_m hM64.symm ?_
                    refine rw_aload_n dX10_takesE_306 rfl rfl ?_
                    refine rw_iload dX10_takesE_307 rfl ?_
                    refine rw_callS1 dX10_takesE_309 ln_RX10_299 ms_X10_rank (ct_X10_rank rfl) (Nat.le_of_ble_eq_true rfl) (Nat.le_of_ble_eq_true rfl) (bw_kki ?_)
                    obtain ⟨q65, hq65, h⟩ := bw_bd h
                    refine rw_callV1 dX10_takesE_312 ln_RX10_311 mv_X10_settle (sh_m w) (bw_kl (by decide)) (ct_X10_settle hq65) (Nat.le_of_ble_eq_true rfl) (Nat.le_of_ble_eq_true rfl) (bw_kkv ?_)
                    refine rw_aload_n dX10_takesE_315 rfl rfl ?_
                    refine rw_get dX10_takesE_316 fl_RX10_72 (sh_m w) (bw_kl (by decide)) rfl ?_
                    refine rw_aload_n dX10_takesE_319 rfl rfl ?_
                    refine rw_get dX10_takesE_320 fl_RX10_296 (sh_m w) (bw_kl (by decide)) rfl ?_
                    refine rw_iload dX10_takesE_323 rfl ?_
                    obtain ⟨g66, h⟩ := bw_gd h
                    refine rw_iast dX10_takesE_325 (sh_m_waits w) (bw_kl (by decide)) (bw_in g66) ?_
                    obtain ⟨M67, hM67, h⟩ := bw_mlE h
                    refine rw_m hM67.symm ?_
                    refine rw_aload_n dX10_takesE_326 rfl rfl ?_
                    refine rw_dup dX10_takesE_327 rfl ?_
                    refine rw_get dX10_takesE_328 fl_RX10_296 (sh_m w) (bw_kl (by decide)) rfl ?_
                    refine rw_iconst (v := 1) dX10_takesE_331 (by decide) ?_
                    refine rw_iadd dX10_takesE_332 ?_
                    refine rw_puti dX10_takesE_333 fl_RX10_296 fp_10_39 (sh_m w) (bw_kl (by decide)) (by decide) (fun _ => rfl) (fun _ => Nat.le_of_ble_eq_true rfl) ?_
                    obtain ⟨M68, hM68, h⟩ := bw_mlE h
                    refine rw_m hM68.symm ?_
                    refine rw_iconst (v := 1) dX10_takesE_336 (by decide) ?_
                    refine rw_istore_n dX10_takesE_337 rfl (by decide) ?_
                    refine rw_aload_n dX10_takesE_338 rfl rfl ?_
                    obtain ⟨q69, hq69, h⟩ := bw_bd h
                    refine rw_callV0 dX10_takesE_339 ln_RX10_293 mv_X10_go (sh_m w) (bw_kl (by decide)) (ct_X10_go hq69) (Nat.le_of_ble_eq_true rfl) (Nat.le_of_ble_eq_true rfl) (bw_kkv ?_)
                    refine rw_goto (tgt := 28) dX10_takesE_342 (by decide) ?_
                    exact rw_sub (rw_lc rfl (rw_lc rfl (rw_lc rfl (rw_lc rfl rw_lz)))) (ih v1 v2 (1 : Int32) q69 h)
                  · have h := bw_if c62 h
                    refine rw_aload_n dX10_takesE_291 rfl rfl ?_
                    refine rw_get dX10_takesE_292 fl_RX10_75 (sh_m w) (bw_kl (by decide)) rfl ?_
                    refine rw_iload_n dX10_takesE_295 rfl rfl ?_
                    obtain ⟨g70, h⟩ := bw_gd h
                    refine rw_zald dX10_takesE_296 (sh_m_tested w) (bw_kl (by decide)) (bw_in g70) ?_
                    have key : RW w 3 0 0 0 0 cX10_takesE RX10 5 (some .boolean) (bw_Z w (bw_pz (out.1) out.2)) 305 [(0, .ref (bw_ad w 93)), (1, .int v1), (2, .int v2), (4, .int (f_X10_signHere M))] [.int (if (M 115 v1.toNatClampNeg) = 0 then (0 : Int32) else (1 : Int32)), .int v1, .ref (bw_ad w 115)] M := by
                      refine rw_zast dX10_takesE_305 (sh_m_tested w) (bw_kl (by decide)) (bw_in g70) ?_
                      obtain ⟨M72, hM72, h⟩ := bw_mlE h
                      refine rw_m hM72.symm ?_
                      refine rw_aload_n dX10_takesE_306 rfl rfl ?_
                      refine rw_iload dX10_takesE_307 rfl ?_
                      refine rw_callS1 dX10_takesE_309 ln_RX10_299 ms_X10_rank (ct_X10_rank rfl) (Nat.le_of_ble_eq_true rfl) (Nat.le_of_ble_eq_true rfl) (bw_kki ?_)
                      obtain ⟨q73, hq73, h⟩ := bw_bd h
                      refine rw_callV1 dX10_takesE_312 ln_RX10_311 mv_X10_settle (sh_m w) (bw_kl (by decide)) (ct_X10_settle hq73) (Nat.le_of_ble_eq_true rfl) (Nat.le_of_ble_eq_true rfl) (bw_kkv ?_)
                      refine rw_aload_n dX10_takesE_315 rfl rfl ?_
                      refine rw_get dX10_takesE_316 fl_RX10_72 (sh_m w) (bw_kl (by decide)) rfl ?_
                      refine rw_aload_n dX10_takesE_319 rfl rfl ?_
                      refine rw_get dX10_takesE_320 fl_RX10_296 (sh_m w) (bw_kl (by decide)) rfl ?_
                      refine rw_iload dX10_takesE_323 rfl ?_
                      obtain ⟨g74, h⟩ := bw_gd h
                      refine rw_iast dX10_takesE_325 (sh_m_waits w) (bw_kl (by decide)) (bw_in g74) ?_
                      obtain ⟨M75, hM75, h⟩ := bw_mlE h
                      refine rw_m hM75.symm ?_
                      refine rw_aload_n dX10_takesE_326 rfl rfl ?_
                      refine rw_dup dX10_takesE_327 rfl ?_
                      refine rw_get dX10_takesE_328 fl_RX10_296 (sh_m w) (bw_kl (by decide)) rfl ?_
                      refine rw_iconst (v := 1) dX10_takesE_331 (by decide) ?_
                      refine rw_iadd dX10_takesE_332 ?_
                      refine rw_puti dX10_takesE_333 fl_RX10_296 fp_10_39 (sh_m w) (bw_kl (by decide)) (by decide) (fun _ => rfl) (fun _ => Nat.le_of_ble_eq_true rfl) ?_
                      obtain ⟨M76, hM76, h⟩ := bw_mlE h
                      refine rw_m hM76.symm ?_
                      refine rw_iconst (v := 1) dX10_takesE_336 (by decide) ?_
                      refine rw_istore_n dX10_takesE_337 rfl (by decide) ?_
                      refine rw_aload_n dX10_takesE_338 rfl rfl ?_
                      obtain ⟨q77, hq77, h⟩ := bw_bd h
                      refine rw_callV0 dX10_takesE_339 ln_RX10_293 mv_X10_go (sh_m w) (bw_kl (by decide)) (ct_X10_go hq77) (Nat.le_of_ble_eq_true rfl) (Nat.le_of_ble_eq_true rfl) (bw_kkv ?_)
                      refine rw_goto (tgt := 28) dX10_takesE_342 (by decide) ?_
                      exact rw_sub (rw_lc rfl (rw_lc rfl (rw_lc rfl (rw_lc rfl rw_lz)))) (ih v1 v2 (1 : Int32) q77 h)
                    refine rw_if_eq (tgt := 304) dX10_takesE_297 (by decide) (fun c71 => ?_) (fun c71 => ?_)
                    · refine rw_iconst (v := 0) dX10_takesE_304 (by decide) ?_
                      simp only [if_pos c71] at key
                      exact rw_sub (rw_lc rfl (rw_lc rfl (rw_lc rfl (rw_lc rfl rw_lz)))) key
                    · refine rw_iconst (v := 1) dX10_takesE_300 (by decide) ?_
                      refine rw_goto (tgt := 305) dX10_takesE_301 (by decide) ?_
                      simp only [if_neg c71] at key
                      exact rw_sub (rw_lc rfl (rw_lc rfl (rw_lc rfl (rw_lc rfl rw_lz)))) key
              · have h := bw_it c53 h
                refine rw_aload_n dX10_takesE_257 rfl rfl ?_
                refine rw_get dX10_takesE_258 fl_RX10_75 (sh_m w) (bw_kl (by decide)) rfl ?_
                refine rw_iload_n dX10_takesE_261 rfl rfl ?_
                obtain ⟨g78, h⟩ := bw_gd h
                refine rw_zald dX10_takesE_262 (sh_m_tested w) (bw_kl (by decide)) (bw_in g78) ?_
                refine rw_if_eq (tgt := 268) dX10_takesE_263 (by decide) (fun c79 => ?_) (fun c79 => ?_)
                · have h := bw_it c79 h
                  refine rw_aload_n dX10_takesE_268 rfl rfl ?_
                  refine rw_get dX10_takesE_269 fl_RX10_75 (sh_m w) (bw_kl (by decide)) rfl ?_
                  refine rw_iload_n dX10_takesE_272 rfl rfl ?_
                  refine rw_iload dX10_takesE_273 rfl ?_
                  refine rw_callS1 dX10_takesE_275 ln_RX10_299 ms_X10_rank (ct_X10_rank rfl) (Nat.le_of_ble_eq_true rfl) (Nat.le_of_ble_eq_true rfl) (bw_kki ?_)
                  refine rw_iconst (v := 3) dX10_takesE_278 (by decide) ?_
                  refine rw_icmp_eq (tgt := 300) dX10_takesE_279 (by decide) (fun c80 => ?_) (fun c80 => ?_)
                  · have h := bw_it c80 h
                    refine rw_iconst (v := 1) dX10_takesE_300 (by decide) ?_
                    refine rw_goto (tgt := 305) dX10_takesE_301 (by decide) ?_
                    refine rw_zast dX10_takesE_305 (sh_m_tested w) (bw_kl (by decide)) (bw_in g78) ?_
                    obtain ⟨M81, hM81, h⟩ := bw_mlE h
                    refine rw_m hM81.symm ?_
                    refine rw_aload_n dX10_takesE_306 rfl rfl ?_
                    refine rw_iload dX10_takesE_307 rfl ?_
                    refine rw_callS1 dX10_takesE_309 ln_RX10_299 ms_X10_rank (ct_X10_rank rfl) (Nat.le_of_ble_eq_true rfl) (Nat.le_of_ble_eq_true rfl) (bw_kki ?_)
                    obtain ⟨q82, hq82, h⟩ := bw_bd h
                    refine rw_callV1 dX10_takesE_312 ln_RX10_311 mv_X10_settle (sh_m w) (bw_kl (by decide)) (ct_X10_settle hq82) (Nat.le_of_ble_eq_true rfl) (Nat.le_of_ble_eq_true rfl) (bw_kkv ?_)
                    refine rw_aload_n dX10_takesE_315 rfl rfl ?_
                    refine rw_get dX10_takesE_316 fl_RX10_72 (sh_m w) (bw_kl (by decide)) rfl ?_
                    refine rw_aload_n dX10_takesE_319 rfl rfl ?_
                    refine rw_get dX10_takesE_320 fl_RX10_296 (sh_m w) (bw_kl (by decide)) rfl ?_
                    refine rw_iload dX10_takesE_323 rfl ?_
                    obtain ⟨g83, h⟩ := bw_gd h
                    refine rw_iast dX10_takesE_325 (sh_m_waits w) (bw_kl (by decide)) (bw_in g83) ?_
                    obtain ⟨M84, hM84, h⟩ := bw_mlE h
                    refine rw_m hM84.symm ?_
                    refine rw_aload_n dX10_takesE_326 rfl rfl ?_
                    refine rw_dup dX10_takesE_327 rfl ?_
                    refine rw_get dX10_takesE_328 fl_RX10_296 (sh_m w) (bw_kl (by decide)) rfl ?_
                    refine rw_iconst (v := 1) dX10_takesE_331 (by decide) ?_
                    refine rw_iadd dX10_takesE_332 ?_
                    refine rw_puti dX10_takesE_333 fl_RX10_296 fp_10_39 (sh_m w) (bw_kl (by decide)) (by decide) (fun _ => rfl) (fun _ => Nat.le_of_ble_eq_true rfl) ?_
                    obtain ⟨M85, hM85, h⟩ := bw_mlE h
                    refine rw_m hM85.symm ?_
                    refine rw_iconst (v := 1) dX10_takesE_336 (by decide) ?_
                    refine rw_istore_n dX10_takesE_337 rfl (by decide) ?_
                    refine rw_aload_n dX10_takesE_338 rfl rfl ?_
                    obtain ⟨q86, hq86, h⟩ := bw_bd h
                    refine rw_callV0 dX10_takesE_339 ln_RX10_293 mv_X10_go (sh_m w) (bw_kl (by decide)) (ct_X10_go hq86) (Nat.le_of_ble_eq_true rfl) (Nat.le_of_ble_eq_true rfl) (bw_kkv ?_)
                    refine rw_goto (tgt := 28) dX10_takesE_342 (by decide) ?_
                    exact rw_sub (rw_lc rfl (rw_lc rfl (rw_lc rfl (rw_lc rfl rw_lz)))) (ih v1 v2 (1 : Int32) q86 h)
                  · have h := bw_if c80 h
                    refine rw_iload dX10_takesE_282 rfl ?_
                    refine rw_callS1 dX10_takesE_284 ln_RX10_299 ms_X10_rank (ct_X10_rank rfl) (Nat.le_of_ble_eq_true rfl) (Nat.le_of_ble_eq_true rfl) (bw_kki ?_)
                    refine rw_iconst (v := 3) dX10_takesE_287 (by decide) ?_
                    have key : RW w 3 0 0 0 0 cX10_takesE RX10 5 (some .boolean) (bw_Z w (bw_pz (out.1) out.2)) 305 [(0, .ref (bw_ad w 93)), (1, .int v1), (2, .int v2), (4, .int (f_X10_signHere M))] [.int (if (f_X10_rank (f_X10_signHere M)) ≤ (3 : Int32) then (0 : Int32) else (if (M 115 v1.toNatClampNeg) = 0 then (0 : Int32) else (1 : Int32))), .int v1, .ref (bw_ad w 115)] M := by
                      refine rw_zast dX10_takesE_305 (sh_m_tested w) (bw_kl (by decide)) (bw_in g78) ?_
                      obtain ⟨M89, hM89, h⟩ := bw_mlE h
                      refine rw_m hM89.symm ?_
                      refine rw_aload_n dX10_takesE_306 rfl rfl ?_
                      refine rw_iload dX10_takesE_307 rfl ?_
                      refine rw_callS1 dX10_takesE_309 ln_RX10_299 ms_X10_rank (ct_X10_rank rfl) (Nat.le_of_ble_eq_true rfl) (Nat.le_of_ble_eq_true rfl) (bw_kki ?_)
                      obtain ⟨q90, hq90, h⟩ := bw_bd h
                      refine rw_callV1 dX10_takesE_312 ln_RX10_311 mv_X10_settle (sh_m w) (bw_kl (by decide)) (ct_X10_settle hq90) (Nat.le_of_ble_eq_true rfl) (Nat.le_of_ble_eq_true rfl) (bw_kkv ?_)
                      refine rw_aload_n dX10_takesE_315 rfl rfl ?_
                      refine rw_get dX10_takesE_316 fl_RX10_72 (sh_m w) (bw_kl (by decide)) rfl ?_
                      refine rw_aload_n dX10_takesE_319 rfl rfl ?_
                      refine rw_get dX10_takesE_320 fl_RX10_296 (sh_m w) (bw_kl (by decide)) rfl ?_
                      refine rw_iload dX10_takesE_323 rfl ?_
                      obtain ⟨g91, h⟩ := bw_gd h
                      refine rw_iast dX10_takesE_325 (sh_m_waits w) (bw_kl (by decide)) (bw_in g91) ?_
                      obtain ⟨M92, hM92, h⟩ := bw_mlE h
                      refine rw_m hM92.symm ?_
                      refine rw_aload_n dX10_takesE_326 rfl rfl ?_
                      refine rw_dup dX10_takesE_327 rfl ?_
                      refine rw_get dX10_takesE_328 fl_RX10_296 (sh_m w) (bw_kl (by decide)) rfl ?_
                      refine rw_iconst (v := 1) dX10_takesE_331 (by decide) ?_
                      refine rw_iadd dX10_takesE_332 ?_
                      refine rw_puti dX10_takesE_333 fl_RX10_296 fp_10_39 (sh_m w) (bw_kl (by decide)) (by decide) (fun _ => rfl) (fun _ => Nat.le_of_ble_eq_true rfl) ?_
                      obtain ⟨M93, hM93, h⟩ := bw_mlE h
                      refine rw_m hM93.symm ?_
                      refine rw_iconst (v := 1) dX10_takesE_336 (by decide) ?_
                      refine rw_istore_n dX10_takesE_337 rfl (by decide) ?_
                      refine rw_aload_n dX10_takesE_338 rfl rfl ?_
                      obtain ⟨q94, hq94, h⟩ := bw_bd h
                      refine rw_callV0 dX10_takesE_339 ln_RX10_293 mv_X10_go (sh_m w) (bw_kl (by decide)) (ct_X10_go hq94) (Nat.le_of_ble_eq_true rfl) (Nat.le_of_ble_eq_true rfl) (bw_kkv ?_)
                      refine rw_goto (tgt := 28) dX10_takesE_342 (by decide) ?_
                      exact rw_sub (rw_lc rfl (rw_lc rfl (rw_lc rfl (rw_lc rfl rw_lz)))) (ih v1 v2 (1 : Int32) q94 h)
                    refine rw_icmp_le (tgt := 304) dX10_takesE_288 (by decide) (fun c87 => ?_) (fun c87 => ?_)
                    · refine rw_iconst (v := 0) dX10_takesE_304 (by decide) ?_
                      simp only [if_pos c87] at key
                      exact rw_sub (rw_lc rfl (rw_lc rfl (rw_lc rfl (rw_lc rfl rw_lz)))) key
                    · refine rw_aload_n dX10_takesE_291 rfl rfl ?_
                      refine rw_get dX10_takesE_292 fl_RX10_75 (sh_m w) (bw_kl (by decide)) rfl ?_
                      refine rw_iload_n dX10_takesE_295 rfl rfl ?_
                      refine rw_zald dX10_takesE_296 (sh_m_tested w) (bw_kl (by decide)) (bw_in g78) ?_
                      refine rw_if_eq (tgt := 304) dX10_takesE_297 (by decide) (fun c88 => ?_) (fun c88 => ?_)
                      · refine rw_iconst (v := 0) dX10_takesE_304 (by decide) ?_
                        simp only [if_neg c87, if_pos c88] at key
                        exact rw_sub (rw_lc rfl (rw_lc rfl (rw_lc rfl (rw_lc rfl rw_lz)))) key
                      · refine rw_iconst (v := 1) dX10_takesE_300 (by decide) ?_
                        refine rw_goto (tgt := 305) dX10_takesE_301 (by decide) ?_
                        simp only [if_neg c87, if_neg c88] at key
                        exact rw_sub (rw_lc rfl (rw_lc rfl (rw_lc rfl (rw_lc rfl rw_lz)))) key
                · have h := bw_if c79 h
                  refine rw_iconst (v := 0) dX10_takesE_266 (by decide) ?_
                  have h := Option.some.inj h
                  subst h
                  exact rw_zret dX10_takesE_267 bw_n0 ⟨rfl, rfl, bw_n0⟩
          · have h := bw_it c51 h
            refine rw_iload_n dX10_takesE_197 rfl rfl ?_
            refine rw_if_le (tgt := 237) dX10_takesE_198 (by decide) (fun c95 => ?_) (fun c95 => ?_)
            · have h := bw_it c95 h
              refine rw_aload_n dX10_takesE_237 rfl rfl ?_
              refine rw_callV0 dX10_takesE_238 ln_RX10_322 mv_X10_signHere (sh_m w) (bw_kl (by decide)) (ct_X10_signHere rfl) (Nat.le_of_ble_eq_true rfl) (Nat.le_of_ble_eq_true rfl) (bw_kki ?_)
              refine rw_istore dX10_takesE_241 (by decide) ?_
              refine rw_iload dX10_takesE_243 rfl ?_
              refine rw_if_eq (tgt := 266) dX10_takesE_245 (by decide) (fun c96 => ?_) (fun c96 => ?_)
              · have h := bw_it c96 h
                refine rw_iconst (v := 0) dX10_takesE_266 (by decide) ?_
                have h := Option.some.inj h
                subst h
                exact rw_zret dX10_takesE_267 bw_n0 ⟨rfl, rfl, bw_n0⟩
              · have h := bw_if c96 h
                refine rw_iload dX10_takesE_248 rfl ?_
                refine rw_callS1 dX10_takesE_250 ln_RX10_299 ms_X10_rank (ct_X10_rank rfl) (Nat.le_of_ble_eq_true rfl) (Nat.le_of_ble_eq_true rfl) (bw_kki ?_)
                refine rw_iconst (v := 3) dX10_takesE_253 (by decide) ?_
                refine rw_icmp_ne (tgt := 268) dX10_takesE_254 (by decide) (fun c97 => ?_) (fun c97 => ?_)
                · have h := bw_if c97 h
                  refine rw_aload_n dX10_takesE_268 rfl rfl ?_
                  refine rw_get dX10_takesE_269 fl_RX10_75 (sh_m w) (bw_kl (by decide)) rfl ?_
                  refine rw_iload_n dX10_takesE_272 rfl rfl ?_
                  refine rw_iload dX10_takesE_273 rfl ?_
                  refine rw_callS1 dX10_takesE_275 ln_RX10_299 ms_X10_rank (ct_X10_rank rfl) (Nat.le_of_ble_eq_true rfl) (Nat.le_of_ble_eq_true rfl) (bw_kki ?_)
                  refine rw_iconst (v := 3) dX10_takesE_278 (by decide) ?_
                  refine rw_icmp_eq (tgt := 300) dX10_takesE_279 (by decide) (fun c98 => ?_) (fun c98 => ?_)
                  · have h := bw_it c98 h
                    refine rw_iconst (v := 1) dX10_takesE_300 (by decide) ?_
                    refine rw_goto (tgt := 305) dX10_takesE_301 (by decide) ?_
                    obtain ⟨g99, h⟩ := bw_gd h
                    refine rw_zast dX10_takesE_305 (sh_m_tested w) (bw_kl (by decide)) (bw_in g99) ?_
                    obtain ⟨M100, hM100, h⟩ := bw_mlE h
                    refine rw_m hM100.symm ?_
                    refine rw_aload_n dX10_takesE_306 rfl rfl ?_
                    refine rw_iload dX10_takesE_307 rfl ?_
                    refine rw_callS1 dX10_takesE_309 ln_RX10_299 ms_X10_rank (ct_X10_rank rfl) (Nat.le_of_ble_eq_true rfl) (Nat.le_of_ble_eq_true rfl) (bw_kki ?_)
                    obtain ⟨q101, hq101, h⟩ := bw_bd h
                    refine rw_callV1 dX10_takesE_312 ln_RX10_311 mv_X10_settle (sh_m w) (bw_kl (by decide)) (ct_X10_settle hq101) (Nat.le_of_ble_eq_true rfl) (Nat.le_of_ble_eq_true rfl) (bw_kkv ?_)
                    refine rw_aload_n dX10_takesE_315 rfl rfl ?_
                    refine rw_get dX10_takesE_316 fl_RX10_72 (sh_m w) (bw_kl (by decide)) rfl ?_
                    refine rw_aload_n dX10_takesE_319 rfl rfl ?_
                    refine rw_get dX10_takesE_320 fl_RX10_296 (sh_m w) (bw_kl (by decide)) rfl ?_
                    refine rw_iload dX10_takesE_323 rfl ?_
                    obtain ⟨g102, h⟩ := bw_gd h
                    refine rw_iast dX10_takesE_325 (sh_m_waits w) (bw_kl (by decide)) (bw_in g102) ?_
                    obtain ⟨M103, hM103, h⟩ := bw_mlE h
                    refine rw_m hM103.symm ?_
                    refine rw_aload_n dX10_takesE_326 rfl rfl ?_
                    refine rw_dup dX10_takesE_327 rfl ?_
                    refine rw_get dX10_takesE_328 fl_RX10_296 (sh_m w) (bw_kl (by decide)) rfl ?_
                    refine rw_iconst (v := 1) dX10_takesE_331 (by decide) ?_
                    refine rw_iadd dX10_takesE_332 ?_
                    refine rw_puti dX10_takesE_333 fl_RX10_296 fp_10_39 (sh_m w) (bw_kl (by decide)) (by decide) (fun _ => rfl) (fun _ => Nat.le_of_ble_eq_true rfl) ?_
                    obtain ⟨M104, hM104, h⟩ := bw_mlE h
                    refine rw_m hM104.symm ?_
                    refine rw_iconst (v := 1) dX10_takesE_336 (by decide) ?_
                    refine rw_istore_n dX10_takesE_337 rfl (by decide) ?_
                    refine rw_aload_n dX10_takesE_338 rfl rfl ?_
                    obtain ⟨q105, hq105, h⟩ := bw_bd h
                    refine rw_callV0 dX10_takesE_339 ln_RX10_293 mv_X10_go (sh_m w) (bw_kl (by decide)) (ct_X10_go hq105) (Nat.le_of_ble_eq_true rfl) (Nat.le_of_ble_eq_true rfl) (bw_kkv ?_)
                    refine rw_goto (tgt := 28) dX10_takesE_342 (by decide) ?_
                    exact rw_sub (rw_lc rfl (rw_lc rfl (rw_lc rfl (rw_lc rfl rw_lz)))) (ih v1 v2 (1 : Int32) q105 h)
                  · have h := bw_if c98 h
                    refine rw_iload dX10_takesE_282 rfl ?_
                    refine rw_callS1 dX10_takesE_284 ln_RX10_299 ms_X10_rank (ct_X10_rank rfl) (Nat.le_of_ble_eq_true rfl) (Nat.le_of_ble_eq_true rfl) (bw_kki ?_)
                    refine rw_iconst (v := 3) dX10_takesE_287 (by decide) ?_
                    refine rw_icmp_le (tgt := 304) dX10_takesE_288 (by decide) (fun c106 => ?_) (fun c106 => ?_)
                    · have h := bw_it c106 h
                      refine rw_iconst (v := 0) dX10_takesE_304 (by decide) ?_
                      obtain ⟨g107, h⟩ := bw_gd h
                      refine rw_zast dX10_takesE_305 (sh_m_tested w) (bw_kl (by decide)) (bw_in g107) ?_
                      obtain ⟨M108, hM108, h⟩ := bw_mlE h
                      refine rw_m hM108.symm ?_
                      refine rw_aload_n dX10_takesE_306 rfl rfl ?_
                      refine rw_iload dX10_takesE_307 rfl ?_
                      refine rw_callS1 dX10_takesE_309 ln_RX10_299 ms_X10_rank (ct_X10_rank rfl) (Nat.le_of_ble_eq_true rfl) (Nat.le_of_ble_eq_true rfl) (bw_kki ?_)
                      obtain ⟨q109, hq109, h⟩ := bw_bd h
                      refine rw_callV1 dX10_takesE_312 ln_RX10_311 mv_X10_settle (sh_m w) (bw_kl (by decide)) (ct_X10_settle hq109) (Nat.le_of_ble_eq_true rfl) (Nat.le_of_ble_eq_true rfl) (bw_kkv ?_)
                      refine rw_aload_n dX10_takesE_315 rfl rfl ?_
                      refine rw_get dX10_takesE_316 fl_RX10_72 (sh_m w) (bw_kl (by decide)) rfl ?_
                      refine rw_aload_n dX10_takesE_319 rfl rfl ?_
                      refine rw_get dX10_takesE_320 fl_RX10_296 (sh_m w) (bw_kl (by decide)) rfl ?_
                      refine rw_iload dX10_takesE_323 rfl ?_
                      obtain ⟨g110, h⟩ := bw_gd h
                      refine rw_iast dX10_takesE_325 (sh_m_waits w) (bw_kl (by decide)) (bw_in g110) ?_
                      obtain ⟨M111, hM111, h⟩ := bw_mlE h
                      refine rw_m hM111.symm ?_
                      refine rw_aload_n dX10_takesE_326 rfl rfl ?_
                      refine rw_dup dX10_takesE_327 rfl ?_
                      refine rw_get dX10_takesE_328 fl_RX10_296 (sh_m w) (bw_kl (by decide)) rfl ?_
                      refine rw_iconst (v := 1) dX10_takesE_331 (by decide) ?_
                      refine rw_iadd dX10_takesE_332 ?_
                      refine rw_puti dX10_takesE_333 fl_RX10_296 fp_10_39 (sh_m w) (bw_kl (by decide)) (by decide) (fun _ => rfl) (fun _ => Nat.le_of_ble_eq_true rfl) ?_
                      obtain ⟨M112, hM112, h⟩ := bw_mlE h
                      refine rw_m hM112.symm ?_
                      refine rw_iconst (v := 1) dX10_takesE_336 (by decide) ?_
                      refine rw_istore_n dX10_takesE_337 rfl (by decide) ?_
                      refine rw_aload_n dX10_takesE_338 rfl rfl ?_
                      obtain ⟨q113, hq113, h⟩ := bw_bd h
                      refine rw_callV0 dX10_takesE_339 ln_RX10_293 mv_X10_go (sh_m w) (bw_kl (by decide)) (ct_X10_go hq113) (Nat.le_of_ble_eq_true rfl) (Nat.le_of_ble_eq_true rfl) (bw_kkv ?_)
                      refine rw_goto (tgt := 28) dX10_takesE_342 (by decide) ?_
                      exact rw_sub (rw_lc rfl (rw_lc rfl (rw_lc rfl (rw_lc rfl rw_lz)))) (ih v1 v2 (1 : Int32) q113 h)
                    · have h := bw_if c106 h
                      refine rw_aload_n dX10_takesE_291 rfl rfl ?_
                      refine rw_get dX10_takesE_292 fl_RX10_75 (sh_m w) (bw_kl (by decide)) rfl ?_
                      refine rw_iload_n dX10_takesE_295 rfl rfl ?_
                      obtain ⟨g114, h⟩ := bw_gd h
                      refine rw_zald dX10_takesE_296 (sh_m_tested w) (bw_kl (by decide)) (bw_in g114) ?_
                      have key : RW w 3 0 0 0 0 cX10_takesE RX10 5 (some .boolean) (bw_Z w (bw_pz (out.1) out.2)) 305 [(0, .ref (bw_ad w 93)), (1, .int v1), (2, .int v2), (4, .int (f_X10_signHere M))] [.int (if (M 115 v1.toNatClampNeg) = 0 then (0 : Int32) else (1 : Int32)), .int v1, .ref (bw_ad w 115)] M := by
                        refine rw_zast dX10_takesE_305 (sh_m_tested w) (bw_kl (by decide)) (bw_in g114) ?_
                        obtain ⟨M116, hM116, h⟩ := bw_mlE h
                        refine rw_m hM116.symm ?_
                        refine rw_aload_n dX10_takesE_306 rfl rfl ?_
                        refine rw_iload dX10_takesE_307 rfl ?_
                        refine rw_callS1 dX10_takesE_309 ln_RX10_299 ms_X10_rank (ct_X10_rank rfl) (Nat.le_of_ble_eq_true rfl) (Nat.le_of_ble_eq_true rfl) (bw_kki ?_)
                        obtain ⟨q117, hq117, h⟩ := bw_bd h
                        refine rw_callV1 dX10_takesE_312 ln_RX10_311 mv_X10_settle (sh_m w) (bw_kl (by decide)) (ct_X10_settle hq117) (Nat.le_of_ble_eq_true rfl) (Nat.le_of_ble_eq_true rfl) (bw_kkv ?_)
                        refine rw_aload_n dX10_takesE_315 rfl rfl ?_
                        refine rw_get dX10_takesE_316 fl_RX10_72 (sh_m w) (bw_kl (by decide)) rfl ?_
                        refine rw_aload_n dX10_takesE_319 rfl rfl ?_
                        refine rw_get dX10_takesE_320 fl_RX10_296 (sh_m w) (bw_kl (by decide)) rfl ?_
                        refine rw_iload dX10_takesE_323 rfl ?_
                        obtain ⟨g118, h⟩ := bw_gd h
                        refine rw_iast dX10_takesE_325 (sh_m_waits w) (bw_kl (by decide)) (bw_in g118) ?_
                        obtain ⟨M119, hM119, h⟩ := bw_mlE h
                        refine rw_m hM119.symm ?_
                        refine rw_aload_n dX10_takesE_326 rfl rfl ?_
                        refine rw_dup dX10_takesE_327 rfl ?_
                        refine rw_get dX10_takesE_328 fl_RX10_296 (sh_m w) (bw_kl (by decide)) rfl ?_
                        refine rw_iconst (v := 1) dX10_takesE_331 (by decide) ?_
                        refine rw_iadd dX10_takesE_332 ?_
                        refine rw_puti dX10_takesE_333 fl_RX10_296 fp_10_39 (sh_m w) (bw_kl (by decide)) (by decide) (fun _ => rfl) (fun _ => Nat.le_of_ble_eq_true rfl) ?_
                        obtain ⟨M120, hM120, h⟩ := bw_mlE h
                        refine rw_m hM120.symm ?_
                        refine rw_iconst (v := 1) dX10_takesE_336 (by decide) ?_
                        refine rw_istore_n dX10_takesE_337 rfl (by decide) ?_
                        refine rw_aload_n dX10_takesE_338 rfl rfl ?_
                        obtain ⟨q121, hq121, h⟩ := bw_bd h
                        refine rw_callV0 dX10_takesE_339 ln_RX10_293 mv_X10_go (sh_m w) (bw_kl (by decide)) (ct_X10_go hq121) (Nat.le_of_ble_eq_true rfl) (Nat.le_of_ble_eq_true rfl) (bw_kkv ?_)
                        refine rw_goto (tgt := 28) dX10_takesE_342 (by decide) ?_
                        exact rw_sub (rw_lc rfl (rw_lc rfl (rw_lc rfl (rw_lc rfl rw_lz)))) (ih v1 v2 (1 : Int32) q121 h)
                      refine rw_if_eq (tgt := 304) dX10_takesE_297 (by decide) (fun c115 => ?_) (fun c115 => ?_)
                      · refine rw_iconst (v := 0) dX10_takesE_304 (by decide) ?_
                        simp only [if_pos c115] at key
                        exact rw_sub (rw_lc rfl (rw_lc rfl (rw_lc rfl (rw_lc rfl rw_lz)))) key
                      · refine rw_iconst (v := 1) dX10_takesE_300 (by decide) ?_
                        refine rw_goto (tgt := 305) dX10_takesE_301 (by decide) ?_
                        simp only [if_neg c115] at key
                        exact rw_sub (rw_lc rfl (rw_lc rfl (rw_lc rfl (rw_lc rfl rw_lz)))) key
                · have h := bw_it c97 h
                  refine rw_aload_n dX10_takesE_257 rfl rfl ?_
                  refine rw_get dX10_takesE_258 fl_RX10_75 (sh_m w) (bw_kl (by decide)) rfl ?_
                  refine rw_iload_n dX10_takesE_261 rfl rfl ?_
                  obtain ⟨g122, h⟩ := bw_gd h
                  refine rw_zald dX10_takesE_262 (sh_m_tested w) (bw_kl (by decide)) (bw_in g122) ?_
                  refine rw_if_eq (tgt := 268) dX10_takesE_263 (by decide) (fun c123 => ?_) (fun c123 => ?_)
                  · have h := bw_it c123 h
                    refine rw_aload_n dX10_takesE_268 rfl rfl ?_
                    refine rw_get dX10_takesE_269 fl_RX10_75 (sh_m w) (bw_kl (by decide)) rfl ?_
                    refine rw_iload_n dX10_takesE_272 rfl rfl ?_
                    refine rw_iload dX10_takesE_273 rfl ?_
                    refine rw_callS1 dX10_takesE_275 ln_RX10_299 ms_X10_rank (ct_X10_rank rfl) (Nat.le_of_ble_eq_true rfl) (Nat.le_of_ble_eq_true rfl) (bw_kki ?_)
                    refine rw_iconst (v := 3) dX10_takesE_278 (by decide) ?_
                    refine rw_icmp_eq (tgt := 300) dX10_takesE_279 (by decide) (fun c124 => ?_) (fun c124 => ?_)
                    · have h := bw_it c124 h
                      refine rw_iconst (v := 1) dX10_takesE_300 (by decide) ?_
                      refine rw_goto (tgt := 305) dX10_takesE_301 (by decide) ?_
                      refine rw_zast dX10_takesE_305 (sh_m_tested w) (bw_kl (by decide)) (bw_in g122) ?_
                      obtain ⟨M125, hM125, h⟩ := bw_mlE h
                      refine rw_m hM125.symm ?_
                      refine rw_aload_n dX10_takesE_306 rfl rfl ?_
                      refine rw_iload dX10_takesE_307 rfl ?_
                      refine rw_callS1 dX10_takesE_309 ln_RX10_299 ms_X10_rank (ct_X10_rank rfl) (Nat.le_of_ble_eq_true rfl) (Nat.le_of_ble_eq_true rfl) (bw_kki ?_)
                      obtain ⟨q126, hq126, h⟩ := bw_bd h
                      refine rw_callV1 dX10_takesE_312 ln_RX10_311 mv_X10_settle (sh_m w) (bw_kl (by decide)) (ct_X10_settle hq126) (Nat.le_of_ble_eq_true rfl) (Nat.le_of_ble_eq_true rfl) (bw_kkv ?_)
                      refine rw_aload_n dX10_takesE_315 rfl rfl ?_
                      refine rw_get dX10_takesE_316 fl_RX10_72 (sh_m w) (bw_kl (by decide)) rfl ?_
                      refine rw_aload_n dX10_takesE_319 rfl rfl ?_
                      refine rw_get dX10_takesE_320 fl_RX10_296 (sh_m w) (bw_kl (by decide)) rfl ?_
                      refine rw_iload dX10_takesE_323 rfl ?_
                      obtain ⟨g127, h⟩ := bw_gd h
                      refine rw_iast dX10_takesE_325 (sh_m_waits w) (bw_kl (by decide)) (bw_in g127) ?_
                      obtain ⟨M128, hM128, h⟩ := bw_mlE h
                      refine rw_m hM128.symm ?_
                      refine rw_aload_n dX10_takesE_326 rfl rfl ?_
                      refine rw_dup dX10_takesE_327 rfl ?_
                      refine rw_get dX10_takesE_328 fl_RX10_296 (sh_m w) (bw_kl (by decide)) rfl ?_
                      refine rw_iconst (v := 1) dX10_takesE_331 (by decide) ?_
                      refine rw_iadd dX10_takesE_332 ?_
                      refine rw_puti dX10_takesE_333 fl_RX10_296 fp_10_39 (sh_m w) (bw_kl (by decide)) (by decide) (fun _ => rfl) (fun _ => Nat.le_of_ble_eq_true rfl) ?_
                      obtain ⟨M129, hM129, h⟩ := bw_mlE h
                      refine rw_m hM129.symm ?_
                      refine rw_iconst (v := 1) dX10_takesE_336 (by decide) ?_
                      refine rw_istore_n dX10_takesE_337 rfl (by decide) ?_
                      refine rw_aload_n dX10_takesE_338 rfl rfl ?_
                      obtain ⟨q130, hq130, h⟩ := bw_bd h
                      refine rw_callV0 dX10_takesE_339 ln_RX10_293 mv_X10_go (sh_m w) (bw_kl (by decide)) (ct_X10_go hq130) (Nat.le_of_ble_eq_true rfl) (Nat.le_of_ble_eq_true rfl) (bw_kkv ?_)
                      refine rw_goto (tgt := 28) dX10_takesE_342 (by decide) ?_
                      exact rw_sub (rw_lc rfl (rw_lc rfl (rw_lc rfl (rw_lc rfl rw_lz)))) (ih v1 v2 (1 : Int32) q130 h)
                    · have h := bw_if c124 h
                      refine rw_iload dX10_takesE_282 rfl ?_
                      refine rw_callS1 dX10_takesE_284 ln_RX10_299 ms_X10_rank (ct_X10_rank rfl) (Nat.le_of_ble_eq_true rfl) (Nat.le_of_ble_eq_true rfl) (bw_kki ?_)
                      refine rw_iconst (v := 3) dX10_takesE_287 (by decide) ?_
                      have key : RW w 3 0 0 0 0 cX10_takesE RX10 5 (some .boolean) (bw_Z w (bw_pz (out.1) out.2)) 305 [(0, .ref (bw_ad w 93)), (1, .int v1), (2, .int v2), (4, .int (f_X10_signHere M))] [.int (if (f_X10_rank (f_X10_signHere M)) ≤ (3 : Int32) then (0 : Int32) else (if (M 115 v1.toNatClampNeg) = 0 then (0 : Int32) else (1 : Int32))), .int v1, .ref (bw_ad w 115)] M := by
                        refine rw_zast dX10_takesE_305 (sh_m_tested w) (bw_kl (by decide)) (bw_in g122) ?_
                        obtain ⟨M133, hM133, h⟩ := bw_mlE h
                        refine rw_m hM133.symm ?_
                        refine rw_aload_n dX10_takesE_306 rfl rfl ?_
                        refine rw_iload dX10_takesE_307 rfl ?_
                        refine rw_callS1 dX10_takesE_309 ln_RX10_299 ms_X10_rank (ct_X10_rank rfl) (Nat.le_of_ble_eq_true rfl) (Nat.le_of_ble_eq_true rfl) (bw_kki ?_)
                        obtain ⟨q134, hq134, h⟩ := bw_bd h
                        refine rw_callV1 dX10_takesE_312 ln_RX10_311 mv_X10_settle (sh_m w) (bw_kl (by decide)) (ct_X10_settle hq134) (Nat.le_of_ble_eq_true rfl) (Nat.le_of_ble_eq_true rfl) (bw_kkv ?_)
                        refine rw_aload_n dX10_takesE_315 rfl rfl ?_
                        refine rw_get dX10_takesE_316 fl_RX10_72 (sh_m w) (bw_kl (by decide)) rfl ?_
                        refine rw_aload_n dX10_takesE_319 rfl rfl ?_
                        refine rw_get dX10_takesE_320 fl_RX10_296 (sh_m w) (bw_kl (by decide)) rfl ?_
                        refine rw_iload dX10_takesE_323 rfl ?_
                        obtain ⟨g135, h⟩ := bw_gd h
                        refine rw_iast dX10_takesE_325 (sh_m_waits w) (bw_kl (by decide)) (bw_in g135) ?_
                        obtain ⟨M136, hM136, h⟩ := bw_mlE h
                        refine rw_m hM136.symm ?_
                        refine rw_aload_n dX10_takesE_326 rfl rfl ?_
                        refine rw_dup dX10_takesE_327 rfl ?_
                        refine rw_get dX10_takesE_328 fl_RX10_296 (sh_m w) (bw_kl (by decide)) rfl ?_
                        refine rw_iconst (v := 1) dX10_takesE_331 (by decide) ?_
                        refine rw_iadd dX10_takesE_332 ?_
                        refine rw_puti dX10_takesE_333 fl_RX10_296 fp_10_39 (sh_m w) (bw_kl (by decide)) (by decide) (fun _ => rfl) (fun _ => Nat.le_of_ble_eq_true rfl) ?_
                        obtain ⟨M137, hM137, h⟩ := bw_mlE h
                        refine rw_m hM137.symm ?_
                        refine rw_iconst (v := 1) dX10_takesE_336 (by decide) ?_
                        refine rw_istore_n dX10_takesE_337 rfl (by decide) ?_
                        refine rw_aload_n dX10_takesE_338 rfl rfl ?_
                        obtain ⟨q138, hq138, h⟩ := bw_bd h
                        refine rw_callV0 dX10_takesE_339 ln_RX10_293 mv_X10_go (sh_m w) (bw_kl (by decide)) (ct_X10_go hq138) (Nat.le_of_ble_eq_true rfl) (Nat.le_of_ble_eq_true rfl) (bw_kkv ?_)
                        refine rw_goto (tgt := 28) dX10_takesE_342 (by decide) ?_
                        exact rw_sub (rw_lc rfl (rw_lc rfl (rw_lc rfl (rw_lc rfl rw_lz)))) (ih v1 v2 (1 : Int32) q138 h)
                      refine rw_icmp_le (tgt := 304) dX10_takesE_288 (by decide) (fun c131 => ?_) (fun c131 => ?_)
                      · refine rw_iconst (v := 0) dX10_takesE_304 (by decide) ?_
                        simp only [if_pos c131] at key
                        exact rw_sub (rw_lc rfl (rw_lc rfl (rw_lc rfl (rw_lc rfl rw_lz)))) key
                      · refine rw_aload_n dX10_takesE_291 rfl rfl ?_
                        refine rw_get dX10_takesE_292 fl_RX10_75 (sh_m w) (bw_kl (by decide)) rfl ?_
                        refine rw_iload_n dX10_takesE_295 rfl rfl ?_
                        refine rw_zald dX10_takesE_296 (sh_m_tested w) (bw_kl (by decide)) (bw_in g122) ?_
                        refine rw_if_eq (tgt := 304) dX10_takesE_297 (by decide) (fun c132 => ?_) (fun c132 => ?_)
                        · refine rw_iconst (v := 0) dX10_takesE_304 (by decide) ?_
                          simp only [if_neg c131, if_pos c132] at key
                          exact rw_sub (rw_lc rfl (rw_lc rfl (rw_lc rfl (rw_lc rfl rw_lz)))) key
                        · refine rw_iconst (v := 1) dX10_takesE_300 (by decide) ?_
                          refine rw_goto (tgt := 305) dX10_takesE_301 (by decide) ?_
                          simp only [if_neg c131, if_neg c132] at key
                          exact rw_sub (rw_lc rfl (rw_lc rfl (rw_lc rfl (rw_lc rfl rw_lz)))) key
                  · have h := bw_if c123 h
                    refine rw_iconst (v := 0) dX10_takesE_266 (by decide) ?_
                    have h := Option.some.inj h
                    subst h
                    exact rw_zret dX10_takesE_267 bw_n0 ⟨rfl, rfl, bw_n0⟩
            · have h := bw_if c95 h
              refine rw_aload_n dX10_takesE_201 rfl rfl ?_
              refine rw_iconst (v := 0) dX10_takesE_202 (by decide) ?_
              obtain ⟨q139, hq139, h⟩ := bw_bd h
              refine rw_callV1 dX10_takesE_203 ln_RX10_311 mv_X10_settle (sh_m w) (bw_kl (by decide)) (ct_X10_settle hq139) (Nat.le_of_ble_eq_true rfl) (Nat.le_of_ble_eq_true rfl) (bw_kkv ?_)
              refine rw_aload_n dX10_takesE_206 rfl rfl ?_
              refine rw_dup dX10_takesE_207 rfl ?_
              refine rw_get dX10_takesE_208 fl_RX10_296 (sh_m w) (bw_kl (by decide)) rfl ?_
              refine rw_iconst (v := 1) dX10_takesE_211 (by decide) ?_
              refine rw_isub dX10_takesE_212 ?_
              refine rw_puti dX10_takesE_213 fl_RX10_296 fp_10_39 (sh_m w) (bw_kl (by decide)) (by decide) (fun _ => rfl) (fun _ => Nat.le_of_ble_eq_true rfl) ?_
              obtain ⟨M140, hM140, h⟩ := bw_mlE h
              refine rw_m hM140.symm ?_
              refine rw_dec dX10_takesE_216 rfl (by decide) ?_
              refine rw_aload_n dX10_takesE_219 rfl rfl ?_
              refine rw_bipush (v := 6) dX10_takesE_220 (by decide) ?_
              obtain ⟨q141, hq141, h⟩ := bw_bd h
              refine rw_callV1 dX10_takesE_222 ln_RX10_311 mv_X10_settle (sh_m w) (bw_kl (by decide)) (ct_X10_settle hq141) (Nat.le_of_ble_eq_true rfl) (Nat.le_of_ble_eq_true rfl) (bw_kkv ?_)
              refine rw_aload_n dX10_takesE_225 rfl rfl ?_
              obtain ⟨q142, hq142, h⟩ := bw_bd h
              refine rw_callV0 dX10_takesE_226 ln_RX10_319 mv_X10_notsOpen (sh_m w) (bw_kl (by decide)) (ct_X10_notsOpen hq142) (Nat.le_of_ble_eq_true rfl) (Nat.le_of_ble_eq_true rfl) (bw_kki ?_)
              refine rw_istore_n dX10_takesE_229 rfl (by decide) ?_
              refine rw_aload_n dX10_takesE_230 rfl rfl ?_
              obtain ⟨q143, hq143, h⟩ := bw_bd h
              refine rw_callV0 dX10_takesE_231 ln_RX10_293 mv_X10_go (sh_m w) (bw_kl (by decide)) (ct_X10_go hq143) (Nat.le_of_ble_eq_true rfl) (Nat.le_of_ble_eq_true rfl) (bw_kkv ?_)
              refine rw_goto (tgt := 28) dX10_takesE_234 (by decide) ?_
              exact rw_sub (rw_lc rfl (rw_lc rfl (rw_lc rfl (rw_lc rfl rw_lz)))) (ih (v1 - 1) q142 v3 q143 h)
      · have h := bw_if c6 h
        refine rw_aload_n dX10_takesE_43 rfl rfl ?_
        refine rw_get dX10_takesE_44 fl_RX10_278 (sh_m w) (bw_kl (by decide)) rfl ?_
        refine rw_iconst (v := 3) dX10_takesE_47 (by decide) ?_
        refine rw_icmp_ne (tgt := 97) dX10_takesE_48 (by decide) (fun c144 => ?_) (fun c144 => ?_)
        · have h := bw_if c144 h
          refine rw_aload_n dX10_takesE_97 rfl rfl ?_
          refine rw_get dX10_takesE_98 fl_RX10_278 (sh_m w) (bw_kl (by decide)) rfl ?_
          refine rw_iconst (v := 3) dX10_takesE_101 (by decide) ?_
          refine rw_icmp_ne (tgt := 158) dX10_takesE_102 (by decide) (fun c145 => ?_) (fun c145 => ?_)
          · have h := bw_if c145 h
            refine rw_aload_n dX10_takesE_158 rfl rfl ?_
            obtain ⟨q146, hq146, h⟩ := bw_bd h
            refine rw_callV0 dX10_takesE_159 ln_RX10_315 mv_X10_takesPart (sh_m w) (bw_kl (by decide)) (ct_X10_takesPart hq146) (Nat.le_of_ble_eq_true rfl) (Nat.le_of_ble_eq_true rfl) (bw_kkz (fun z147 => ?_))
            refine rw_if_eq (tgt := 170) dX10_takesE_162 (by decide) (fun c148 => ?_) (fun c148 => ?_)
            · have h := bw_it c148 h
              refine rw_iconst (v := 0) dX10_takesE_170 (by decide) ?_
              have h := Option.some.inj h
              subst h
              exact rw_zret dX10_takesE_171 bw_n0 ⟨rfl, rfl, bw_n0⟩
            · have h := bw_if c148 h
              refine rw_iconst (v := 0) dX10_takesE_165 (by decide) ?_
              refine rw_istore_n dX10_takesE_166 rfl (by decide) ?_
              refine rw_goto (tgt := 172) dX10_takesE_167 (by decide) ?_
              refine rw_aload_n dX10_takesE_172 rfl rfl ?_
              obtain ⟨q149, hq149, h⟩ := bw_bd h
              refine rw_callV0 dX10_takesE_173 ln_RX10_319 mv_X10_notsOpen (sh_m w) (bw_kl (by decide)) (ct_X10_notsOpen hq149) (Nat.le_of_ble_eq_true rfl) (Nat.le_of_ble_eq_true rfl) (bw_kki ?_)
              refine rw_istore_n dX10_takesE_176 rfl (by decide) ?_
              refine rw_goto (tgt := 28) dX10_takesE_177 (by decide) ?_
              exact rw_sub (rw_lc rfl (rw_lc rfl (rw_lc rfl (rw_lc rfl rw_lz)))) (ih v1 q149 (0 : Int32) q146.2 h)
          · have h := bw_it c145 h
            refine rw_aload_n dX10_takesE_105 rfl rfl ?_
            refine rw_get dX10_takesE_106 fl_RX10_284 (sh_m w) (bw_kl (by decide)) rfl ?_
            refine rw_bipush (v := 40) dX10_takesE_109 (by decide) ?_
            refine rw_icmp_ne (tgt := 158) dX10_takesE_111 (by decide) (fun c150 => ?_) (fun c150 => ?_)
            · have h := bw_if c150 h
              refine rw_aload_n dX10_takesE_158 rfl rfl ?_
              obtain ⟨q151, hq151, h⟩ := bw_bd h
              refine rw_callV0 dX10_takesE_159 ln_RX10_315 mv_X10_takesPart (sh_m w) (bw_kl (by decide)) (ct_X10_takesPart hq151) (Nat.le_of_ble_eq_true rfl) (Nat.le_of_ble_eq_true rfl) (bw_kkz (fun z152 => ?_))
              refine rw_if_eq (tgt := 170) dX10_takesE_162 (by decide) (fun c153 => ?_) (fun c153 => ?_)
              · have h := bw_it c153 h
                refine rw_iconst (v := 0) dX10_takesE_170 (by decide) ?_
                have h := Option.some.inj h
                subst h
                exact rw_zret dX10_takesE_171 bw_n0 ⟨rfl, rfl, bw_n0⟩
              · have h := bw_if c153 h
                refine rw_iconst (v := 0) dX10_takesE_165 (by decide) ?_
                refine rw_istore_n dX10_takesE_166 rfl (by decide) ?_
                refine rw_goto (tgt := 172) dX10_takesE_167 (by decide) ?_
                refine rw_aload_n dX10_takesE_172 rfl rfl ?_
                obtain ⟨q154, hq154, h⟩ := bw_bd h
                refine rw_callV0 dX10_takesE_173 ln_RX10_319 mv_X10_notsOpen (sh_m w) (bw_kl (by decide)) (ct_X10_notsOpen hq154) (Nat.le_of_ble_eq_true rfl) (Nat.le_of_ble_eq_true rfl) (bw_kki ?_)
                refine rw_istore_n dX10_takesE_176 rfl (by decide) ?_
                refine rw_goto (tgt := 28) dX10_takesE_177 (by decide) ?_
                exact rw_sub (rw_lc rfl (rw_lc rfl (rw_lc rfl (rw_lc rfl rw_lz)))) (ih v1 q154 (0 : Int32) q151.2 h)
            · have h := bw_it c150 h
              refine rw_iload_n dX10_takesE_114 rfl rfl ?_
              refine rw_bipush (v := 8) dX10_takesE_115 (by decide) ?_
              refine rw_icmp_ge (tgt := 158) dX10_takesE_117 (by decide) (fun c155 => ?_) (fun c155 => ?_)
              · have h := bw_it c155 h
                refine rw_aload_n dX10_takesE_158 rfl rfl ?_
                obtain ⟨q156, hq156, h⟩ := bw_bd h
                refine rw_callV0 dX10_takesE_159 ln_RX10_315 mv_X10_takesPart (sh_m w) (bw_kl (by decide)) (ct_X10_takesPart hq156) (Nat.le_of_ble_eq_true rfl) (Nat.le_of_ble_eq_true rfl) (bw_kkz (fun z157 => ?_))
                refine rw_if_eq (tgt := 170) dX10_takesE_162 (by decide) (fun c158 => ?_) (fun c158 => ?_)
                · have h := bw_it c158 h
                  refine rw_iconst (v := 0) dX10_takesE_170 (by decide) ?_
                  have h := Option.some.inj h
                  subst h
                  exact rw_zret dX10_takesE_171 bw_n0 ⟨rfl, rfl, bw_n0⟩
                · have h := bw_if c158 h
                  refine rw_iconst (v := 0) dX10_takesE_165 (by decide) ?_
                  refine rw_istore_n dX10_takesE_166 rfl (by decide) ?_
                  refine rw_goto (tgt := 172) dX10_takesE_167 (by decide) ?_
                  refine rw_aload_n dX10_takesE_172 rfl rfl ?_
                  obtain ⟨q159, hq159, h⟩ := bw_bd h
                  refine rw_callV0 dX10_takesE_173 ln_RX10_319 mv_X10_notsOpen (sh_m w) (bw_kl (by decide)) (ct_X10_notsOpen hq159) (Nat.le_of_ble_eq_true rfl) (Nat.le_of_ble_eq_true rfl) (bw_kki ?_)
                  refine rw_istore_n dX10_takesE_176 rfl (by decide) ?_
                  refine rw_goto (tgt := 28) dX10_takesE_177 (by decide) ?_
                  exact rw_sub (rw_lc rfl (rw_lc rfl (rw_lc rfl (rw_lc rfl rw_lz)))) (ih v1 q159 (0 : Int32) q156.2 h)
              · have h := bw_if c155 h
                refine rw_aload_n dX10_takesE_120 rfl rfl ?_
                refine rw_get dX10_takesE_121 fl_RX10_72 (sh_m w) (bw_kl (by decide)) rfl ?_
                refine rw_aload_n dX10_takesE_124 rfl rfl ?_
                refine rw_get dX10_takesE_125 fl_RX10_296 (sh_m w) (bw_kl (by decide)) rfl ?_
                refine rw_bipush (v := -11) dX10_takesE_128 (by decide) ?_
                obtain ⟨g160, h⟩ := bw_gd h
                refine rw_iast dX10_takesE_130 (sh_m_waits w) (bw_kl (by decide)) (bw_in g160) ?_
                obtain ⟨M161, hM161, h⟩ := bw_mlE h
                refine rw_m hM161.symm ?_
                refine rw_aload_n dX10_takesE_131 rfl rfl ?_
                refine rw_dup dX10_takesE_132 rfl ?_
                refine rw_get dX10_takesE_133 fl_RX10_296 (sh_m w) (bw_kl (by decide)) rfl ?_
                refine rw_iconst (v := 1) dX10_takesE_136 (by decide) ?_
                refine rw_iadd dX10_takesE_137 ?_
                refine rw_puti dX10_takesE_138 fl_RX10_296 fp_10_39 (sh_m w) (bw_kl (by decide)) (by decide) (fun _ => rfl) (fun _ => Nat.le_of_ble_eq_true rfl) ?_
                obtain ⟨M162, hM162, h⟩ := bw_mlE h
                refine rw_m hM162.symm ?_
                refine rw_inc dX10_takesE_141 rfl (by decide) ?_
                refine rw_aload_n dX10_takesE_144 rfl rfl ?_
                refine rw_get dX10_takesE_145 fl_RX10_75 (sh_m w) (bw_kl (by decide)) rfl ?_
                refine rw_iload_n dX10_takesE_148 rfl rfl ?_
                refine rw_iconst (v := 0) dX10_takesE_149 (by decide) ?_
                obtain ⟨g163, h⟩ := bw_gd h
                refine rw_zast dX10_takesE_150 (sh_m_tested w) (bw_kl (by decide)) (bw_in g163) ?_
                obtain ⟨M164, hM164, h⟩ := bw_mlE h
                refine rw_m hM164.symm ?_
                refine rw_aload_n dX10_takesE_151 rfl rfl ?_
                obtain ⟨q165, hq165, h⟩ := bw_bd h
                refine rw_callV0 dX10_takesE_152 ln_RX10_293 mv_X10_go (sh_m w) (bw_kl (by decide)) (ct_X10_go hq165) (Nat.le_of_ble_eq_true rfl) (Nat.le_of_ble_eq_true rfl) (bw_kkv ?_)
                refine rw_goto (tgt := 172) dX10_takesE_155 (by decide) ?_
                refine rw_aload_n dX10_takesE_172 rfl rfl ?_
                obtain ⟨q166, hq166, h⟩ := bw_bd h
                refine rw_callV0 dX10_takesE_173 ln_RX10_319 mv_X10_notsOpen (sh_m w) (bw_kl (by decide)) (ct_X10_notsOpen hq166) (Nat.le_of_ble_eq_true rfl) (Nat.le_of_ble_eq_true rfl) (bw_kki ?_)
                refine rw_istore_n dX10_takesE_176 rfl (by decide) ?_
                refine rw_goto (tgt := 28) dX10_takesE_177 (by decide) ?_
                exact rw_sub (rw_lc rfl (rw_lc rfl (rw_lc rfl (rw_lc rfl rw_lz)))) (ih (v1 + 1) q166 v3 q165 h)
        · have h := bw_it c144 h
          refine rw_aload_n dX10_takesE_51 rfl rfl ?_
          refine rw_get dX10_takesE_52 fl_RX10_284 (sh_m w) (bw_kl (by decide)) rfl ?_
          refine rw_bipush (v := 33) dX10_takesE_55 (by decide) ?_
          refine rw_icmp_ne (tgt := 97) dX10_takesE_57 (by decide) (fun c167 => ?_) (fun c167 => ?_)
          · have h := bw_if c167 h
            refine rw_aload_n dX10_takesE_97 rfl rfl ?_
            refine rw_get dX10_takesE_98 fl_RX10_278 (sh_m w) (bw_kl (by decide)) rfl ?_
            refine rw_iconst (v := 3) dX10_takesE_101 (by decide) ?_
            refine rw_icmp_ne (tgt := 158) dX10_takesE_102 (by decide) (fun c168 => ?_) (fun c168 => ?_)
            · have h := bw_if c168 h
              refine rw_aload_n dX10_takesE_158 rfl rfl ?_
              obtain ⟨q169, hq169, h⟩ := bw_bd h
              refine rw_callV0 dX10_takesE_159 ln_RX10_315 mv_X10_takesPart (sh_m w) (bw_kl (by decide)) (ct_X10_takesPart hq169) (Nat.le_of_ble_eq_true rfl) (Nat.le_of_ble_eq_true rfl) (bw_kkz (fun z170 => ?_))
              refine rw_if_eq (tgt := 170) dX10_takesE_162 (by decide) (fun c171 => ?_) (fun c171 => ?_)
              · have h := bw_it c171 h
                refine rw_iconst (v := 0) dX10_takesE_170 (by decide) ?_
                have h := Option.some.inj h
                subst h
                exact rw_zret dX10_takesE_171 bw_n0 ⟨rfl, rfl, bw_n0⟩
              · have h := bw_if c171 h
                refine rw_iconst (v := 0) dX10_takesE_165 (by decide) ?_
                refine rw_istore_n dX10_takesE_166 rfl (by decide) ?_
                refine rw_goto (tgt := 172) dX10_takesE_167 (by decide) ?_
                refine rw_aload_n dX10_takesE_172 rfl rfl ?_
                obtain ⟨q172, hq172, h⟩ := bw_bd h
                refine rw_callV0 dX10_takesE_173 ln_RX10_319 mv_X10_notsOpen (sh_m w) (bw_kl (by decide)) (ct_X10_notsOpen hq172) (Nat.le_of_ble_eq_true rfl) (Nat.le_of_ble_eq_true rfl) (bw_kki ?_)
                refine rw_istore_n dX10_takesE_176 rfl (by decide) ?_
                refine rw_goto (tgt := 28) dX10_takesE_177 (by decide) ?_
                exact rw_sub (rw_lc rfl (rw_lc rfl (rw_lc rfl (rw_lc rfl rw_lz)))) (ih v1 q172 (0 : Int32) q169.2 h)
            · have h := bw_it c168 h
              refine rw_aload_n dX10_takesE_105 rfl rfl ?_
              refine rw_get dX10_takesE_106 fl_RX10_284 (sh_m w) (bw_kl (by decide)) rfl ?_
              refine rw_bipush (v := 40) dX10_takesE_109 (by decide) ?_
              refine rw_icmp_ne (tgt := 158) dX10_takesE_111 (by decide) (fun c173 => ?_) (fun c173 => ?_)
              · have h := bw_if c173 h
                refine rw_aload_n dX10_takesE_158 rfl rfl ?_
                obtain ⟨q174, hq174, h⟩ := bw_bd h
                refine rw_callV0 dX10_takesE_159 ln_RX10_315 mv_X10_takesPart (sh_m w) (bw_kl (by decide)) (ct_X10_takesPart hq174) (Nat.le_of_ble_eq_true rfl) (Nat.le_of_ble_eq_true rfl) (bw_kkz (fun z175 => ?_))
                refine rw_if_eq (tgt := 170) dX10_takesE_162 (by decide) (fun c176 => ?_) (fun c176 => ?_)
                · have h := bw_it c176 h
                  refine rw_iconst (v := 0) dX10_takesE_170 (by decide) ?_
                  have h := Option.some.inj h
                  subst h
                  exact rw_zret dX10_takesE_171 bw_n0 ⟨rfl, rfl, bw_n0⟩
                · have h := bw_if c176 h
                  refine rw_iconst (v := 0) dX10_takesE_165 (by decide) ?_
                  refine rw_istore_n dX10_takesE_166 rfl (by decide) ?_
                  refine rw_goto (tgt := 172) dX10_takesE_167 (by decide) ?_
                  refine rw_aload_n dX10_takesE_172 rfl rfl ?_
                  obtain ⟨q177, hq177, h⟩ := bw_bd h
                  refine rw_callV0 dX10_takesE_173 ln_RX10_319 mv_X10_notsOpen (sh_m w) (bw_kl (by decide)) (ct_X10_notsOpen hq177) (Nat.le_of_ble_eq_true rfl) (Nat.le_of_ble_eq_true rfl) (bw_kki ?_)
                  refine rw_istore_n dX10_takesE_176 rfl (by decide) ?_
                  refine rw_goto (tgt := 28) dX10_takesE_177 (by decide) ?_
                  exact rw_sub (rw_lc rfl (rw_lc rfl (rw_lc rfl (rw_lc rfl rw_lz)))) (ih v1 q177 (0 : Int32) q174.2 h)
              · have h := bw_it c173 h
                refine rw_iload_n dX10_takesE_114 rfl rfl ?_
                refine rw_bipush (v := 8) dX10_takesE_115 (by decide) ?_
                refine rw_icmp_ge (tgt := 158) dX10_takesE_117 (by decide) (fun c178 => ?_) (fun c178 => ?_)
                · have h := bw_it c178 h
                  refine rw_aload_n dX10_takesE_158 rfl rfl ?_
                  obtain ⟨q179, hq179, h⟩ := bw_bd h
                  refine rw_callV0 dX10_takesE_159 ln_RX10_315 mv_X10_takesPart (sh_m w) (bw_kl (by decide)) (ct_X10_takesPart hq179) (Nat.le_of_ble_eq_true rfl) (Nat.le_of_ble_eq_true rfl) (bw_kkz (fun z180 => ?_))
                  refine rw_if_eq (tgt := 170) dX10_takesE_162 (by decide) (fun c181 => ?_) (fun c181 => ?_)
                  · have h := bw_it c181 h
                    refine rw_iconst (v := 0) dX10_takesE_170 (by decide) ?_
                    have h := Option.some.inj h
                    subst h
                    exact rw_zret dX10_takesE_171 bw_n0 ⟨rfl, rfl, bw_n0⟩
                  · have h := bw_if c181 h
                    refine rw_iconst (v := 0) dX10_takesE_165 (by decide) ?_
                    refine rw_istore_n dX10_takesE_166 rfl (by decide) ?_
                    refine rw_goto (tgt := 172) dX10_takesE_167 (by decide) ?_
                    refine rw_aload_n dX10_takesE_172 rfl rfl ?_
                    obtain ⟨q182, hq182, h⟩ := bw_bd h
                    refine rw_callV0 dX10_takesE_173 ln_RX10_319 mv_X10_notsOpen (sh_m w) (bw_kl (by decide)) (ct_X10_notsOpen hq182) (Nat.le_of_ble_eq_true rfl) (Nat.le_of_ble_eq_true rfl) (bw_kki ?_)
                    refine rw_istore_n dX10_takesE_176 rfl (by decide) ?_
                    refine rw_goto (tgt := 28) dX10_takesE_177 (by decide) ?_
                    exact rw_sub (rw_lc rfl (rw_lc rfl (rw_lc rfl (rw_lc rfl rw_lz)))) (ih v1 q182 (0 : Int32) q179.2 h)
                · have h := bw_if c178 h
                  refine rw_aload_n dX10_takesE_120 rfl rfl ?_
                  refine rw_get dX10_takesE_121 fl_RX10_72 (sh_m w) (bw_kl (by decide)) rfl ?_
                  refine rw_aload_n dX10_takesE_124 rfl rfl ?_
                  refine rw_get dX10_takesE_125 fl_RX10_296 (sh_m w) (bw_kl (by decide)) rfl ?_
                  refine rw_bipush (v := -11) dX10_takesE_128 (by decide) ?_
                  obtain ⟨g183, h⟩ := bw_gd h
                  refine rw_iast dX10_takesE_130 (sh_m_waits w) (bw_kl (by decide)) (bw_in g183) ?_
                  obtain ⟨M184, hM184, h⟩ := bw_mlE h
                  refine rw_m hM184.symm ?_
                  refine rw_aload_n dX10_takesE_131 rfl rfl ?_
                  refine rw_dup dX10_takesE_132 rfl ?_
                  refine rw_get dX10_takesE_133 fl_RX10_296 (sh_m w) (bw_kl (by decide)) rfl ?_
                  refine rw_iconst (v := 1) dX10_takesE_136 (by decide) ?_
                  refine rw_iadd dX10_takesE_137 ?_
                  refine rw_puti dX10_takesE_138 fl_RX10_296 fp_10_39 (sh_m w) (bw_kl (by decide)) (by decide) (fun _ => rfl) (fun _ => Nat.le_of_ble_eq_true rfl) ?_
                  obtain ⟨M185, hM185, h⟩ := bw_mlE h
                  refine rw_m hM185.symm ?_
                  refine rw_inc dX10_takesE_141 rfl (by decide) ?_
                  refine rw_aload_n dX10_takesE_144 rfl rfl ?_
                  refine rw_get dX10_takesE_145 fl_RX10_75 (sh_m w) (bw_kl (by decide)) rfl ?_
                  refine rw_iload_n dX10_takesE_148 rfl rfl ?_
                  refine rw_iconst (v := 0) dX10_takesE_149 (by decide) ?_
                  obtain ⟨g186, h⟩ := bw_gd h
                  refine rw_zast dX10_takesE_150 (sh_m_tested w) (bw_kl (by decide)) (bw_in g186) ?_
                  obtain ⟨M187, hM187, h⟩ := bw_mlE h
                  refine rw_m hM187.symm ?_
                  refine rw_aload_n dX10_takesE_151 rfl rfl ?_
                  obtain ⟨q188, hq188, h⟩ := bw_bd h
                  refine rw_callV0 dX10_takesE_152 ln_RX10_293 mv_X10_go (sh_m w) (bw_kl (by decide)) (ct_X10_go hq188) (Nat.le_of_ble_eq_true rfl) (Nat.le_of_ble_eq_true rfl) (bw_kkv ?_)
                  refine rw_goto (tgt := 172) dX10_takesE_155 (by decide) ?_
                  refine rw_aload_n dX10_takesE_172 rfl rfl ?_
                  obtain ⟨q189, hq189, h⟩ := bw_bd h
                  refine rw_callV0 dX10_takesE_173 ln_RX10_319 mv_X10_notsOpen (sh_m w) (bw_kl (by decide)) (ct_X10_notsOpen hq189) (Nat.le_of_ble_eq_true rfl) (Nat.le_of_ble_eq_true rfl) (bw_kki ?_)
                  refine rw_istore_n dX10_takesE_176 rfl (by decide) ?_
                  refine rw_goto (tgt := 28) dX10_takesE_177 (by decide) ?_
                  exact rw_sub (rw_lc rfl (rw_lc rfl (rw_lc rfl (rw_lc rfl rw_lz)))) (ih (v1 + 1) q189 v3 q188 h)
          · have h := bw_it c167 h
            refine rw_iload_n dX10_takesE_60 rfl rfl ?_
            refine rw_bipush (v := 8) dX10_takesE_61 (by decide) ?_
            refine rw_icmp_ge (tgt := 97) dX10_takesE_63 (by decide) (fun c190 => ?_) (fun c190 => ?_)
            · have h := bw_it c190 h
              refine rw_aload_n dX10_takesE_97 rfl rfl ?_
              refine rw_get dX10_takesE_98 fl_RX10_278 (sh_m w) (bw_kl (by decide)) rfl ?_
              refine rw_iconst (v := 3) dX10_takesE_101 (by decide) ?_
              refine rw_icmp_ne (tgt := 158) dX10_takesE_102 (by decide) (fun c191 => ?_) (fun c191 => ?_)
              · have h := bw_if c191 h
                refine rw_aload_n dX10_takesE_158 rfl rfl ?_
                obtain ⟨q192, hq192, h⟩ := bw_bd h
                refine rw_callV0 dX10_takesE_159 ln_RX10_315 mv_X10_takesPart (sh_m w) (bw_kl (by decide)) (ct_X10_takesPart hq192) (Nat.le_of_ble_eq_true rfl) (Nat.le_of_ble_eq_true rfl) (bw_kkz (fun z193 => ?_))
                refine rw_if_eq (tgt := 170) dX10_takesE_162 (by decide) (fun c194 => ?_) (fun c194 => ?_)
                · have h := bw_it c194 h
                  refine rw_iconst (v := 0) dX10_takesE_170 (by decide) ?_
                  have h := Option.some.inj h
                  subst h
                  exact rw_zret dX10_takesE_171 bw_n0 ⟨rfl, rfl, bw_n0⟩
                · have h := bw_if c194 h
                  refine rw_iconst (v := 0) dX10_takesE_165 (by decide) ?_
                  refine rw_istore_n dX10_takesE_166 rfl (by decide) ?_
                  refine rw_goto (tgt := 172) dX10_takesE_167 (by decide) ?_
                  refine rw_aload_n dX10_takesE_172 rfl rfl ?_
                  obtain ⟨q195, hq195, h⟩ := bw_bd h
                  refine rw_callV0 dX10_takesE_173 ln_RX10_319 mv_X10_notsOpen (sh_m w) (bw_kl (by decide)) (ct_X10_notsOpen hq195) (Nat.le_of_ble_eq_true rfl) (Nat.le_of_ble_eq_true rfl) (bw_kki ?_)
                  refine rw_istore_n dX10_takesE_176 rfl (by decide) ?_
                  refine rw_goto (tgt := 28) dX10_takesE_177 (by decide) ?_
                  exact rw_sub (rw_lc rfl (rw_lc rfl (rw_lc rfl (rw_lc rfl rw_lz)))) (ih v1 q195 (0 : Int32) q192.2 h)
              · have h := bw_it c191 h
                refine rw_aload_n dX10_takesE_105 rfl rfl ?_
                refine rw_get dX10_takesE_106 fl_RX10_284 (sh_m w) (bw_kl (by decide)) rfl ?_
                refine rw_bipush (v := 40) dX10_takesE_109 (by decide) ?_
                refine rw_icmp_ne (tgt := 158) dX10_takesE_111 (by decide) (fun c196 => ?_) (fun c196 => ?_)
                · have h := bw_if c196 h
                  refine rw_aload_n dX10_takesE_158 rfl rfl ?_
                  obtain ⟨q197, hq197, h⟩ := bw_bd h
                  refine rw_callV0 dX10_takesE_159 ln_RX10_315 mv_X10_takesPart (sh_m w) (bw_kl (by decide)) (ct_X10_takesPart hq197) (Nat.le_of_ble_eq_true rfl) (Nat.le_of_ble_eq_true rfl) (bw_kkz (fun z198 => ?_))
                  refine rw_if_eq (tgt := 170) dX10_takesE_162 (by decide) (fun c199 => ?_) (fun c199 => ?_)
                  · have h := bw_it c199 h
                    refine rw_iconst (v := 0) dX10_takesE_170 (by decide) ?_
                    have h := Option.some.inj h
                    subst h
                    exact rw_zret dX10_takesE_171 bw_n0 ⟨rfl, rfl, bw_n0⟩
                  · have h := bw_if c199 h
                    refine rw_iconst (v := 0) dX10_takesE_165 (by decide) ?_
                    refine rw_istore_n dX10_takesE_166 rfl (by decide) ?_
                    refine rw_goto (tgt := 172) dX10_takesE_167 (by decide) ?_
                    refine rw_aload_n dX10_takesE_172 rfl rfl ?_
                    obtain ⟨q200, hq200, h⟩ := bw_bd h
                    refine rw_callV0 dX10_takesE_173 ln_RX10_319 mv_X10_notsOpen (sh_m w) (bw_kl (by decide)) (ct_X10_notsOpen hq200) (Nat.le_of_ble_eq_true rfl) (Nat.le_of_ble_eq_true rfl) (bw_kki ?_)
                    refine rw_istore_n dX10_takesE_176 rfl (by decide) ?_
                    refine rw_goto (tgt := 28) dX10_takesE_177 (by decide) ?_
                    exact rw_sub (rw_lc rfl (rw_lc rfl (rw_lc rfl (rw_lc rfl rw_lz)))) (ih v1 q200 (0 : Int32) q197.2 h)
                · have h := bw_it c196 h
                  refine rw_iload_n dX10_takesE_114 rfl rfl ?_
                  refine rw_bipush (v := 8) dX10_takesE_115 (by decide) ?_
                  refine rw_icmp_ge (tgt := 158) dX10_takesE_117 (by decide) (fun c201 => ?_) (fun c201 => ?_)
                  · have h := bw_it c201 h
                    refine rw_aload_n dX10_takesE_158 rfl rfl ?_
                    obtain ⟨q202, hq202, h⟩ := bw_bd h
                    refine rw_callV0 dX10_takesE_159 ln_RX10_315 mv_X10_takesPart (sh_m w) (bw_kl (by decide)) (ct_X10_takesPart hq202) (Nat.le_of_ble_eq_true rfl) (Nat.le_of_ble_eq_true rfl) (bw_kkz (fun z203 => ?_))
                    refine rw_if_eq (tgt := 170) dX10_takesE_162 (by decide) (fun c204 => ?_) (fun c204 => ?_)
                    · have h := bw_it c204 h
                      refine rw_iconst (v := 0) dX10_takesE_170 (by decide) ?_
                      have h := Option.some.inj h
                      subst h
                      exact rw_zret dX10_takesE_171 bw_n0 ⟨rfl, rfl, bw_n0⟩
                    · have h := bw_if c204 h
                      refine rw_iconst (v := 0) dX10_takesE_165 (by decide) ?_
                      refine rw_istore_n dX10_takesE_166 rfl (by decide) ?_
                      refine rw_goto (tgt := 172) dX10_takesE_167 (by decide) ?_
                      refine rw_aload_n dX10_takesE_172 rfl rfl ?_
                      obtain ⟨q205, hq205, h⟩ := bw_bd h
                      refine rw_callV0 dX10_takesE_173 ln_RX10_319 mv_X10_notsOpen (sh_m w) (bw_kl (by decide)) (ct_X10_notsOpen hq205) (Nat.le_of_ble_eq_true rfl) (Nat.le_of_ble_eq_true rfl) (bw_kki ?_)
                      refine rw_istore_n dX10_takesE_176 rfl (by decide) ?_
                      refine rw_goto (tgt := 28) dX10_takesE_177 (by decide) ?_
                      exact rw_sub (rw_lc rfl (rw_lc rfl (rw_lc rfl (rw_lc rfl rw_lz)))) (ih v1 q205 (0 : Int32) q202.2 h)
                  · have h := bw_if c201 h
                    refine rw_aload_n dX10_takesE_120 rfl rfl ?_
                    refine rw_get dX10_takesE_121 fl_RX10_72 (sh_m w) (bw_kl (by decide)) rfl ?_
                    refine rw_aload_n dX10_takesE_124 rfl rfl ?_
                    refine rw_get dX10_takesE_125 fl_RX10_296 (sh_m w) (bw_kl (by decide)) rfl ?_
                    refine rw_bipush (v := -11) dX10_takesE_128 (by decide) ?_
                    obtain ⟨g206, h⟩ := bw_gd h
                    refine rw_iast dX10_takesE_130 (sh_m_waits w) (bw_kl (by decide)) (bw_in g206) ?_
                    obtain ⟨M207, hM207, h⟩ := bw_mlE h
                    refine rw_m hM207.symm ?_
                    refine rw_aload_n dX10_takesE_131 rfl rfl ?_
                    refine rw_dup dX10_takesE_132 rfl ?_
                    refine rw_get dX10_takesE_133 fl_RX10_296 (sh_m w) (bw_kl (by decide)) rfl ?_
                    refine rw_iconst (v := 1) dX10_takesE_136 (by decide) ?_
                    refine rw_iadd dX10_takesE_137 ?_
                    refine rw_puti dX10_takesE_138 fl_RX10_296 fp_10_39 (sh_m w) (bw_kl (by decide)) (by decide) (fun _ => rfl) (fun _ => Nat.le_of_ble_eq_true rfl) ?_
                    obtain ⟨M208, hM208, h⟩ := bw_mlE h
                    refine rw_m hM208.symm ?_
                    refine rw_inc dX10_takesE_141 rfl (by decide) ?_
                    refine rw_aload_n dX10_takesE_144 rfl rfl ?_
                    refine rw_get dX10_takesE_145 fl_RX10_75 (sh_m w) (bw_kl (by decide)) rfl ?_
                    refine rw_iload_n dX10_takesE_148 rfl rfl ?_
                    refine rw_iconst (v := 0) dX10_takesE_149 (by decide) ?_
                    obtain ⟨g209, h⟩ := bw_gd h
                    refine rw_zast dX10_takesE_150 (sh_m_tested w) (bw_kl (by decide)) (bw_in g209) ?_
                    obtain ⟨M210, hM210, h⟩ := bw_mlE h
                    refine rw_m hM210.symm ?_
                    refine rw_aload_n dX10_takesE_151 rfl rfl ?_
                    obtain ⟨q211, hq211, h⟩ := bw_bd h
                    refine rw_callV0 dX10_takesE_152 ln_RX10_293 mv_X10_go (sh_m w) (bw_kl (by decide)) (ct_X10_go hq211) (Nat.le_of_ble_eq_true rfl) (Nat.le_of_ble_eq_true rfl) (bw_kkv ?_)
                    refine rw_goto (tgt := 172) dX10_takesE_155 (by decide) ?_
                    refine rw_aload_n dX10_takesE_172 rfl rfl ?_
                    obtain ⟨q212, hq212, h⟩ := bw_bd h
                    refine rw_callV0 dX10_takesE_173 ln_RX10_319 mv_X10_notsOpen (sh_m w) (bw_kl (by decide)) (ct_X10_notsOpen hq212) (Nat.le_of_ble_eq_true rfl) (Nat.le_of_ble_eq_true rfl) (bw_kki ?_)
                    refine rw_istore_n dX10_takesE_176 rfl (by decide) ?_
                    refine rw_goto (tgt := 28) dX10_takesE_177 (by decide) ?_
                    exact rw_sub (rw_lc rfl (rw_lc rfl (rw_lc rfl (rw_lc rfl rw_lz)))) (ih (v1 + 1) q212 v3 q211 h)
            · have h := bw_if c190 h
              refine rw_aload_n dX10_takesE_66 rfl rfl ?_
              refine rw_get dX10_takesE_67 fl_RX10_72 (sh_m w) (bw_kl (by decide)) rfl ?_
              refine rw_aload_n dX10_takesE_70 rfl rfl ?_
              refine rw_get dX10_takesE_71 fl_RX10_296 (sh_m w) (bw_kl (by decide)) rfl ?_
              refine rw_bipush (v := -10) dX10_takesE_74 (by decide) ?_
              obtain ⟨g213, h⟩ := bw_gd h
              refine rw_iast dX10_takesE_76 (sh_m_waits w) (bw_kl (by decide)) (bw_in g213) ?_
              obtain ⟨M214, hM214, h⟩ := bw_mlE h
              refine rw_m hM214.symm ?_
              refine rw_aload_n dX10_takesE_77 rfl rfl ?_
              refine rw_dup dX10_takesE_78 rfl ?_
              refine rw_get dX10_takesE_79 fl_RX10_296 (sh_m w) (bw_kl (by decide)) rfl ?_
              refine rw_iconst (v := 1) dX10_takesE_82 (by decide) ?_
              refine rw_iadd dX10_takesE_83 ?_
              refine rw_puti dX10_takesE_84 fl_RX10_296 fp_10_39 (sh_m w) (bw_kl (by decide)) (by decide) (fun _ => rfl) (fun _ => Nat.le_of_ble_eq_true rfl) ?_
              obtain ⟨M215, hM215, h⟩ := bw_mlE h
              refine rw_m hM215.symm ?_
              refine rw_inc dX10_takesE_87 rfl (by decide) ?_
              refine rw_aload_n dX10_takesE_90 rfl rfl ?_
              obtain ⟨q216, hq216, h⟩ := bw_bd h
              refine rw_callV0 dX10_takesE_91 ln_RX10_293 mv_X10_go (sh_m w) (bw_kl (by decide)) (ct_X10_go hq216) (Nat.le_of_ble_eq_true rfl) (Nat.le_of_ble_eq_true rfl) (bw_kkv ?_)
              refine rw_goto (tgt := 172) dX10_takesE_94 (by decide) ?_
              refine rw_aload_n dX10_takesE_172 rfl rfl ?_
              obtain ⟨q217, hq217, h⟩ := bw_bd h
              refine rw_callV0 dX10_takesE_173 ln_RX10_319 mv_X10_notsOpen (sh_m w) (bw_kl (by decide)) (ct_X10_notsOpen hq217) (Nat.le_of_ble_eq_true rfl) (Nat.le_of_ble_eq_true rfl) (bw_kki ?_)
              refine rw_istore_n dX10_takesE_176 rfl (by decide) ?_
              refine rw_goto (tgt := 28) dX10_takesE_177 (by decide) ?_
              exact rw_sub (rw_lc rfl (rw_lc rfl (rw_lc rfl (rw_lc rfl rw_lz)))) (ih v1 q217 v3 q216 h)
    · have h := bw_it c5 h
      refine rw_aload_n dX10_takesE_32 rfl rfl ?_
      refine rw_get dX10_takesE_33 fl_RX10_278 (sh_m w) (bw_kl (by decide)) rfl ?_
      refine rw_if_eq (tgt := 345) dX10_takesE_36 (by decide) (fun c218 => ?_) (fun c218 => ?_)
      · have h := bw_it c218 h
        refine rw_aload_n dX10_takesE_345 rfl rfl ?_
        refine rw_iconst (v := 0) dX10_takesE_346 (by decide) ?_
        obtain ⟨q219, hq219, h⟩ := bw_bd h
        refine rw_callV1 dX10_takesE_347 ln_RX10_311 mv_X10_settle (sh_m w) (bw_kl (by decide)) (ct_X10_settle hq219) (Nat.le_of_ble_eq_true rfl) (Nat.le_of_ble_eq_true rfl) (bw_kkv ?_)
        refine rw_iload_n dX10_takesE_350 rfl rfl ?_
        refine rw_if_ne (tgt := 358) dX10_takesE_351 (by decide) (fun c220 => ?_) (fun c220 => ?_)
        · have h := bw_if c220 h
          refine rw_iconst (v := 0) dX10_takesE_358 (by decide) ?_
          have h := Option.some.inj h
          subst h
          exact rw_zret dX10_takesE_359 bw_n0 ⟨rfl, rfl, bw_n0⟩
        · have h := bw_it c220 h
          refine rw_iconst (v := 1) dX10_takesE_354 (by decide) ?_
          refine rw_goto (tgt := 359) dX10_takesE_355 (by decide) ?_
          have h := Option.some.inj h
          subst h
          exact rw_zret dX10_takesE_359 bw_n1 ⟨rfl, rfl, bw_n1⟩
      · have h := bw_if c218 h
        refine rw_iload_n dX10_takesE_39 rfl rfl ?_
        refine rw_if_eq (tgt := 180) dX10_takesE_40 (by decide) (fun c221 => ?_) (fun c221 => ?_)
        · have h := bw_it c221 h
          refine rw_aload_n dX10_takesE_180 rfl rfl ?_
          refine rw_get dX10_takesE_181 fl_RX10_278 (sh_m w) (bw_kl (by decide)) rfl ?_
          refine rw_iconst (v := 3) dX10_takesE_184 (by decide) ?_
          refine rw_icmp_ne (tgt := 237) dX10_takesE_185 (by decide) (fun c222 => ?_) (fun c222 => ?_)
          · have h := bw_if c222 h
            refine rw_aload_n dX10_takesE_237 rfl rfl ?_
            refine rw_callV0 dX10_takesE_238 ln_RX10_322 mv_X10_signHere (sh_m w) (bw_kl (by decide)) (ct_X10_signHere rfl) (Nat.le_of_ble_eq_true rfl) (Nat.le_of_ble_eq_true rfl) (bw_kki ?_)
            refine rw_istore dX10_takesE_241 (by decide) ?_
            refine rw_iload dX10_takesE_243 rfl ?_
            refine rw_if_eq (tgt := 266) dX10_takesE_245 (by decide) (fun c223 => ?_) (fun c223 => ?_)
            · have h := bw_it c223 h
              refine rw_iconst (v := 0) dX10_takesE_266 (by decide) ?_
              have h := Option.some.inj h
              subst h
              exact rw_zret dX10_takesE_267 bw_n0 ⟨rfl, rfl, bw_n0⟩
            · have h := bw_if c223 h
              refine rw_iload dX10_takesE_248 rfl ?_
              refine rw_callS1 dX10_takesE_250 ln_RX10_299 ms_X10_rank (ct_X10_rank rfl) (Nat.le_of_ble_eq_true rfl) (Nat.le_of_ble_eq_true rfl) (bw_kki ?_)
              refine rw_iconst (v := 3) dX10_takesE_253 (by decide) ?_
              refine rw_icmp_ne (tgt := 268) dX10_takesE_254 (by decide) (fun c224 => ?_) (fun c224 => ?_)
              · have h := bw_if c224 h
                refine rw_aload_n dX10_takesE_268 rfl rfl ?_
                refine rw_get dX10_takesE_269 fl_RX10_75 (sh_m w) (bw_kl (by decide)) rfl ?_
                refine rw_iload_n dX10_takesE_272 rfl rfl ?_
                refine rw_iload dX10_takesE_273 rfl ?_
                refine rw_callS1 dX10_takesE_275 ln_RX10_299 ms_X10_rank (ct_X10_rank rfl) (Nat.le_of_ble_eq_true rfl) (Nat.le_of_ble_eq_true rfl) (bw_kki ?_)
                refine rw_iconst (v := 3) dX10_takesE_278 (by decide) ?_
                refine rw_icmp_eq (tgt := 300) dX10_takesE_279 (by decide) (fun c225 => ?_) (fun c225 => ?_)
                · have h := bw_it c225 h
                  refine rw_iconst (v := 1) dX10_takesE_300 (by decide) ?_
                  refine rw_goto (tgt := 305) dX10_takesE_301 (by decide) ?_
                  obtain ⟨g226, h⟩ := bw_gd h
                  refine rw_zast dX10_takesE_305 (sh_m_tested w) (bw_kl (by decide)) (bw_in g226) ?_
                  obtain ⟨M227, hM227, h⟩ := bw_mlE h
                  refine rw_m hM227.symm ?_
                  refine rw_aload_n dX10_takesE_306 rfl rfl ?_
                  refine rw_iload dX10_takesE_307 rfl ?_
                  refine rw_callS1 dX10_takesE_309 ln_RX10_299 ms_X10_rank (ct_X10_rank rfl) (Nat.le_of_ble_eq_true rfl) (Nat.le_of_ble_eq_true rfl) (bw_kki ?_)
                  obtain ⟨q228, hq228, h⟩ := bw_bd h
                  refine rw_callV1 dX10_takesE_312 ln_RX10_311 mv_X10_settle (sh_m w) (bw_kl (by decide)) (ct_X10_settle hq228) (Nat.le_of_ble_eq_true rfl) (Nat.le_of_ble_eq_true rfl) (bw_kkv ?_)
                  refine rw_aload_n dX10_takesE_315 rfl rfl ?_
                  refine rw_get dX10_takesE_316 fl_RX10_72 (sh_m w) (bw_kl (by decide)) rfl ?_
                  refine rw_aload_n dX10_takesE_319 rfl rfl ?_
                  refine rw_get dX10_takesE_320 fl_RX10_296 (sh_m w) (bw_kl (by decide)) rfl ?_
                  refine rw_iload dX10_takesE_323 rfl ?_
                  obtain ⟨g229, h⟩ := bw_gd h
                  refine rw_iast dX10_takesE_325 (sh_m_waits w) (bw_kl (by decide)) (bw_in g229) ?_
                  obtain ⟨M230, hM230, h⟩ := bw_mlE h
                  refine rw_m hM230.symm ?_
                  refine rw_aload_n dX10_takesE_326 rfl rfl ?_
                  refine rw_dup dX10_takesE_327 rfl ?_
                  refine rw_get dX10_takesE_328 fl_RX10_296 (sh_m w) (bw_kl (by decide)) rfl ?_
                  refine rw_iconst (v := 1) dX10_takesE_331 (by decide) ?_
                  refine rw_iadd dX10_takesE_332 ?_
                  refine rw_puti dX10_takesE_333 fl_RX10_296 fp_10_39 (sh_m w) (bw_kl (by decide)) (by decide) (fun _ => rfl) (fun _ => Nat.le_of_ble_eq_true rfl) ?_
                  obtain ⟨M231, hM231, h⟩ := bw_mlE h
                  refine rw_m hM231.symm ?_
                  refine rw_iconst (v := 1) dX10_takesE_336 (by decide) ?_
                  refine rw_istore_n dX10_takesE_337 rfl (by decide) ?_
                  refine rw_aload_n dX10_takesE_338 rfl rfl ?_
                  obtain ⟨q232, hq232, h⟩ := bw_bd h
                  refine rw_callV0 dX10_takesE_339 ln_RX10_293 mv_X10_go (sh_m w) (bw_kl (by decide)) (ct_X10_go hq232) (Nat.le_of_ble_eq_true rfl) (Nat.le_of_ble_eq_true rfl) (bw_kkv ?_)
                  refine rw_goto (tgt := 28) dX10_takesE_342 (by decide) ?_
                  exact rw_sub (rw_lc rfl (rw_lc rfl (rw_lc rfl (rw_lc rfl rw_lz)))) (ih v1 v2 (1 : Int32) q232 h)
                · have h := bw_if c225 h
                  refine rw_iload dX10_takesE_282 rfl ?_
                  refine rw_callS1 dX10_takesE_284 ln_RX10_299 ms_X10_rank (ct_X10_rank rfl) (Nat.le_of_ble_eq_true rfl) (Nat.le_of_ble_eq_true rfl) (bw_kki ?_)
                  refine rw_iconst (v := 3) dX10_takesE_287 (by decide) ?_
                  refine rw_icmp_le (tgt := 304) dX10_takesE_288 (by decide) (fun c233 => ?_) (fun c233 => ?_)
                  · have h := bw_it c233 h
                    refine rw_iconst (v := 0) dX10_takesE_304 (by decide) ?_
                    obtain ⟨g234, h⟩ := bw_gd h
                    refine rw_zast dX10_takesE_305 (sh_m_tested w) (bw_kl (by decide)) (bw_in g234) ?_
                    obtain ⟨M235, hM235, h⟩ := bw_mlE h
                    refine rw_m hM235.symm ?_
                    refine rw_aload_n dX10_takesE_306 rfl rfl ?_
                    refine rw_iload dX10_takesE_307 rfl ?_
                    refine rw_callS1 dX10_takesE_309 ln_RX10_299 ms_X10_rank (ct_X10_rank rfl) (Nat.le_of_ble_eq_true rfl) (Nat.le_of_ble_eq_true rfl) (bw_kki ?_)
                    obtain ⟨q236, hq236, h⟩ := bw_bd h
                    refine rw_callV1 dX10_takesE_312 ln_RX10_311 mv_X10_settle (sh_m w) (bw_kl (by decide)) (ct_X10_settle hq236) (Nat.le_of_ble_eq_true rfl) (Nat.le_of_ble_eq_true rfl) (bw_kkv ?_)
                    refine rw_aload_n dX10_takesE_315 rfl rfl ?_
                    refine rw_get dX10_takesE_316 fl_RX10_72 (sh_m w) (bw_kl (by decide)) rfl ?_
                    refine rw_aload_n dX10_takesE_319 rfl rfl ?_
                    refine rw_get dX10_takesE_320 fl_RX10_296 (sh_m w) (bw_kl (by decide)) rfl ?_
                    refine rw_iload dX10_takesE_323 rfl ?_
                    obtain ⟨g237, h⟩ := bw_gd h
                    refine rw_iast dX10_takesE_325 (sh_m_waits w) (bw_kl (by decide)) (bw_in g237) ?_
                    obtain ⟨M238, hM238, h⟩ := bw_mlE h
                    refine rw_m hM238.symm ?_
                    refine rw_aload_n dX10_takesE_326 rfl rfl ?_
                    refine rw_dup dX10_takesE_327 rfl ?_
                    refine rw_get dX10_takesE_328 fl_RX10_296 (sh_m w) (bw_kl (by decide)) rfl ?_
                    refine rw_iconst (v := 1) dX10_takesE_331 (by decide) ?_
                    refine rw_iadd dX10_takesE_332 ?_
                    refine rw_puti dX10_takesE_333 fl_RX10_296 fp_10_39 (sh_m w) (bw_kl (by decide)) (by decide) (fun _ => rfl) (fun _ => Nat.le_of_ble_eq_true rfl) ?_
                    obtain ⟨M239, hM239, h⟩ := bw_mlE h
                    refine rw_m hM239.symm ?_
                    refine rw_iconst (v := 1) dX10_takesE_336 (by decide) ?_
                    refine rw_istore_n dX10_takesE_337 rfl (by decide) ?_
                    refine rw_aload_n dX10_takesE_338 rfl rfl ?_
                    obtain ⟨q240, hq240, h⟩ := bw_bd h
                    refine rw_callV0 dX10_takesE_339 ln_RX10_293 mv_X10_go (sh_m w) (bw_kl (by decide)) (ct_X10_go hq240) (Nat.le_of_ble_eq_true rfl) (Nat.le_of_ble_eq_true rfl) (bw_kkv ?_)
                    refine rw_goto (tgt := 28) dX10_takesE_342 (by decide) ?_
                    exact rw_sub (rw_lc rfl (rw_lc rfl (rw_lc rfl (rw_lc rfl rw_lz)))) (ih v1 v2 (1 : Int32) q240 h)
                  · have h := bw_if c233 h
                    refine rw_aload_n dX10_takesE_291 rfl rfl ?_
                    refine rw_get dX10_takesE_292 fl_RX10_75 (sh_m w) (bw_kl (by decide)) rfl ?_
                    refine rw_iload_n dX10_takesE_295 rfl rfl ?_
                    obtain ⟨g241, h⟩ := bw_gd h
                    refine rw_zald dX10_takesE_296 (sh_m_tested w) (bw_kl (by decide)) (bw_in g241) ?_
                    have key : RW w 3 0 0 0 0 cX10_takesE RX10 5 (some .boolean) (bw_Z w (bw_pz (out.1) out.2)) 305 [(0, .ref (bw_ad w 93)), (1, .int v1), (2, .int v2), (4, .int (f_X10_signHere M))] [.int (if (M 115 v1.toNatClampNeg) = 0 then (0 : Int32) else (1 : Int32)), .int v1, .ref (bw_ad w 115)] M := by
                      refine rw_zast dX10_takesE_305 (sh_m_tested w) (bw_kl (by decide)) (bw_in g241) ?_
                      obtain ⟨M243, hM243, h⟩ := bw_mlE h
                      refine rw_m hM243.symm ?_
                      refine rw_aload_n dX10_takesE_306 rfl rfl ?_
                      refine rw_iload dX10_takesE_307 rfl ?_
                      refine rw_callS1 dX10_takesE_309 ln_RX10_299 ms_X10_rank (ct_X10_rank rfl) (Nat.le_of_ble_eq_true rfl) (Nat.le_of_ble_eq_true rfl) (bw_kki ?_)
                      obtain ⟨q244, hq244, h⟩ := bw_bd h
                      refine rw_callV1 dX10_takesE_312 ln_RX10_311 mv_X10_settle (sh_m w) (bw_kl (by decide)) (ct_X10_settle hq244) (Nat.le_of_ble_eq_true rfl) (Nat.le_of_ble_eq_true rfl) (bw_kkv ?_)
                      refine rw_aload_n dX10_takesE_315 rfl rfl ?_
                      refine rw_get dX10_takesE_316 fl_RX10_72 (sh_m w) (bw_kl (by decide)) rfl ?_
                      refine rw_aload_n dX10_takesE_319 rfl rfl ?_
                      refine rw_get dX10_takesE_320 fl_RX10_296 (sh_m w) (bw_kl (by decide)) rfl ?_
                      refine rw_iload dX10_takesE_323 rfl ?_
                      obtain ⟨g245, h⟩ := bw_gd h
                      refine rw_iast dX10_takesE_325 (sh_m_waits w) (bw_kl (by decide)) (bw_in g245) ?_
                      obtain ⟨M246, hM246, h⟩ := bw_mlE h
                      refine rw_m hM246.symm ?_
                      refine rw_aload_n dX10_takesE_326 rfl rfl ?_
                      refine rw_dup dX10_takesE_327 rfl ?_
                      refine rw_get dX10_takesE_328 fl_RX10_296 (sh_m w) (bw_kl (by decide)) rfl ?_
                      refine rw_iconst (v := 1) dX10_takesE_331 (by decide) ?_
                      refine rw_iadd dX10_takesE_332 ?_
                      refine rw_puti dX10_takesE_333 fl_RX10_296 fp_10_39 (sh_m w) (bw_kl (by decide)) (by decide) (fun _ => rfl) (fun _ => Nat.le_of_ble_eq_true rfl) ?_
                      obtain ⟨M247, hM247, h⟩ := bw_mlE h
                      refine rw_m hM247.symm ?_
                      refine rw_iconst (v := 1) dX10_takesE_336 (by decide) ?_
                      refine rw_istore_n dX10_takesE_337 rfl (by decide) ?_
                      refine rw_aload_n dX10_takesE_338 rfl rfl ?_
                      obtain ⟨q248, hq248, h⟩ := bw_bd h
                      refine rw_callV0 dX10_takesE_339 ln_RX10_293 mv_X10_go (sh_m w) (bw_kl (by decide)) (ct_X10_go hq248) (Nat.le_of_ble_eq_true rfl) (Nat.le_of_ble_eq_true rfl) (bw_kkv ?_)
                      refine rw_goto (tgt := 28) dX10_takesE_342 (by decide) ?_
                      exact rw_sub (rw_lc rfl (rw_lc rfl (rw_lc rfl (rw_lc rfl rw_lz)))) (ih v1 v2 (1 : Int32) q248 h)
                    refine rw_if_eq (tgt := 304) dX10_takesE_297 (by decide) (fun c242 => ?_) (fun c242 => ?_)
                    · refine rw_iconst (v := 0) dX10_takesE_304 (by decide) ?_
                      simp only [if_pos c242] at key
                      exact rw_sub (rw_lc rfl (rw_lc rfl (rw_lc rfl (rw_lc rfl rw_lz)))) key
                    · refine rw_iconst (v := 1) dX10_takesE_300 (by decide) ?_
                      refine rw_goto (tgt := 305) dX10_takesE_301 (by decide) ?_
                      simp only [if_neg c242] at key
                      exact rw_sub (rw_lc rfl (rw_lc rfl (rw_lc rfl (rw_lc rfl rw_lz)))) key
              · have h := bw_it c224 h
                refine rw_aload_n dX10_takesE_257 rfl rfl ?_
                refine rw_get dX10_takesE_258 fl_RX10_75 (sh_m w) (bw_kl (by decide)) rfl ?_
                refine rw_iload_n dX10_takesE_261 rfl rfl ?_
                obtain ⟨g249, h⟩ := bw_gd h
                refine rw_zald dX10_takesE_262 (sh_m_tested w) (bw_kl (by decide)) (bw_in g249) ?_
                refine rw_if_eq (tgt := 268) dX10_takesE_263 (by decide) (fun c250 => ?_) (fun c250 => ?_)
                · have h := bw_it c250 h
                  refine rw_aload_n dX10_takesE_268 rfl rfl ?_
                  refine rw_get dX10_takesE_269 fl_RX10_75 (sh_m w) (bw_kl (by decide)) rfl ?_
                  refine rw_iload_n dX10_takesE_272 rfl rfl ?_
                  refine rw_iload dX10_takesE_273 rfl ?_
                  refine rw_callS1 dX10_takesE_275 ln_RX10_299 ms_X10_rank (ct_X10_rank rfl) (Nat.le_of_ble_eq_true rfl) (Nat.le_of_ble_eq_true rfl) (bw_kki ?_)
                  refine rw_iconst (v := 3) dX10_takesE_278 (by decide) ?_
                  refine rw_icmp_eq (tgt := 300) dX10_takesE_279 (by decide) (fun c251 => ?_) (fun c251 => ?_)
                  · have h := bw_it c251 h
                    refine rw_iconst (v := 1) dX10_takesE_300 (by decide) ?_
                    refine rw_goto (tgt := 305) dX10_takesE_301 (by decide) ?_
                    refine rw_zast dX10_takesE_305 (sh_m_tested w) (bw_kl (by decide)) (bw_in g249) ?_
                    obtain ⟨M252, hM252, h⟩ := bw_mlE h
                    refine rw_m hM252.symm ?_
                    refine rw_aload_n dX10_takesE_306 rfl rfl ?_
                    refine rw_iload dX10_takesE_307 rfl ?_
                    refine rw_callS1 dX10_takesE_309 ln_RX10_299 ms_X10_rank (ct_X10_rank rfl) (Nat.le_of_ble_eq_true rfl) (Nat.le_of_ble_eq_true rfl) (bw_kki ?_)
                    obtain ⟨q253, hq253, h⟩ := bw_bd h
                    refine rw_callV1 dX10_takesE_312 ln_RX10_311 mv_X10_settle (sh_m w) (bw_kl (by decide)) (ct_X10_settle hq253) (Nat.le_of_ble_eq_true rfl) (Nat.le_of_ble_eq_true rfl) (bw_kkv ?_)
                    refine rw_aload_n dX10_takesE_315 rfl rfl ?_
                    refine rw_get dX10_takesE_316 fl_RX10_72 (sh_m w) (bw_kl (by decide)) rfl ?_
                    refine rw_aload_n dX10_takesE_319 rfl rfl ?_
                    refine rw_get dX10_takesE_320 fl_RX10_296 (sh_m w) (bw_kl (by decide)) rfl ?_
                    refine rw_iload dX10_takesE_323 rfl ?_
                    obtain ⟨g254, h⟩ := bw_gd h
                    refine rw_iast dX10_takesE_325 (sh_m_waits w) (bw_kl (by decide)) (bw_in g254) ?_
                    obtain ⟨M255, hM255, h⟩ := bw_mlE h
                    refine rw_m hM255.symm ?_
                    refine rw_aload_n dX10_takesE_326 rfl rfl ?_
                    refine rw_dup dX10_takesE_327 rfl ?_
                    refine rw_get dX10_takesE_328 fl_RX10_296 (sh_m w) (bw_kl (by decide)) rfl ?_
                    refine rw_iconst (v := 1) dX10_takesE_331 (by decide) ?_
                    refine rw_iadd dX10_takesE_332 ?_
                    refine rw_puti dX10_takesE_333 fl_RX10_296 fp_10_39 (sh_m w) (bw_kl (by decide)) (by decide) (fun _ => rfl) (fun _ => Nat.le_of_ble_eq_true rfl) ?_
                    obtain ⟨M256, hM256, h⟩ := bw_mlE h
                    refine rw_m hM256.symm ?_
                    refine rw_iconst (v := 1) dX10_takesE_336 (by decide) ?_
                    refine rw_istore_n dX10_takesE_337 rfl (by decide) ?_
                    refine rw_aload_n dX10_takesE_338 rfl rfl ?_
                    obtain ⟨q257, hq257, h⟩ := bw_bd h
                    refine rw_callV0 dX10_takesE_339 ln_RX10_293 mv_X10_go (sh_m w) (bw_kl (by decide)) (ct_X10_go hq257) (Nat.le_of_ble_eq_true rfl) (Nat.le_of_ble_eq_true rfl) (bw_kkv ?_)
                    refine rw_goto (tgt := 28) dX10_takesE_342 (by decide) ?_
                    exact rw_sub (rw_lc rfl (rw_lc rfl (rw_lc rfl (rw_lc rfl rw_lz)))) (ih v1 v2 (1 : Int32) q257 h)
                  · have h := bw_if c251 h
                    refine rw_iload dX10_takesE_282 rfl ?_
                    refine rw_callS1 dX10_takesE_284 ln_RX10_299 ms_X10_rank (ct_X10_rank rfl) (Nat.le_of_ble_eq_true rfl) (Nat.le_of_ble_eq_true rfl) (bw_kki ?_)
                    refine rw_iconst (v := 3) dX10_takesE_287 (by decide) ?_
                    have key : RW w 3 0 0 0 0 cX10_takesE RX10 5 (some .boolean) (bw_Z w (bw_pz (out.1) out.2)) 305 [(0, .ref (bw_ad w 93)), (1, .int v1), (2, .int v2), (4, .int (f_X10_signHere M))] [.int (if (f_X10_rank (f_X10_signHere M)) ≤ (3 : Int32) then (0 : Int32) else (if (M 115 v1.toNatClampNeg) = 0 then (0 : Int32) else (1 : Int32))), .int v1, .ref (bw_ad w 115)] M := by
                      refine rw_zast dX10_takesE_305 (sh_m_tested w) (bw_kl (by decide)) (bw_in g249) ?_
                      obtain ⟨M260, hM260, h⟩ := bw_mlE h
                      refine rw_m hM260.symm ?_
                      refine rw_aload_n dX10_takesE_306 rfl rfl ?_
                      refine rw_iload dX10_takesE_307 rfl ?_
                      refine rw_callS1 dX10_takesE_309 ln_RX10_299 ms_X10_rank (ct_X10_rank rfl) (Nat.le_of_ble_eq_true rfl) (Nat.le_of_ble_eq_true rfl) (bw_kki ?_)
                      obtain ⟨q261, hq261, h⟩ := bw_bd h
                      refine rw_callV1 dX10_takesE_312 ln_RX10_311 mv_X10_settle (sh_m w) (bw_kl (by decide)) (ct_X10_settle hq261) (Nat.le_of_ble_eq_true rfl) (Nat.le_of_ble_eq_true rfl) (bw_kkv ?_)
                      refine rw_aload_n dX10_takesE_315 rfl rfl ?_
                      refine rw_get dX10_takesE_316 fl_RX10_72 (sh_m w) (bw_kl (by decide)) rfl ?_
                      refine rw_aload_n dX10_takesE_319 rfl rfl ?_
                      refine rw_get dX10_takesE_320 fl_RX10_296 (sh_m w) (bw_kl (by decide)) rfl ?_
                      refine rw_iload dX10_takesE_323 rfl ?_
                      obtain ⟨g262, h⟩ := bw_gd h
                      refine rw_iast dX10_takesE_325 (sh_m_waits w) (bw_kl (by decide)) (bw_in g262) ?_
                      obtain ⟨M263, hM263, h⟩ := bw_mlE h
                      refine rw_m hM263.symm ?_
                      refine rw_aload_n dX10_takesE_326 rfl rfl ?_
                      refine rw_dup dX10_takesE_327 rfl ?_
                      refine rw_get dX10_takesE_328 fl_RX10_296 (sh_m w) (bw_kl (by decide)) rfl ?_
                      refine rw_iconst (v := 1) dX10_takesE_331 (by decide) ?_
                      refine rw_iadd dX10_takesE_332 ?_
                      refine rw_puti dX10_takesE_333 fl_RX10_296 fp_10_39 (sh_m w) (bw_kl (by decide)) (by decide) (fun _ => rfl) (fun _ => Nat.le_of_ble_eq_true rfl) ?_
                      obtain ⟨M264, hM264, h⟩ := bw_mlE h
                      refine rw_m hM264.symm ?_
                      refine rw_iconst (v := 1) dX10_takesE_336 (by decide) ?_
                      refine rw_istore_n dX10_takesE_337 rfl (by decide) ?_
                      refine rw_aload_n dX10_takesE_338 rfl rfl ?_
                      obtain ⟨q265, hq265, h⟩ := bw_bd h
                      refine rw_callV0 dX10_takesE_339 ln_RX10_293 mv_X10_go (sh_m w) (bw_kl (by decide)) (ct_X10_go hq265) (Nat.le_of_ble_eq_true rfl) (Nat.le_of_ble_eq_true rfl) (bw_kkv ?_)
                      refine rw_goto (tgt := 28) dX10_takesE_342 (by decide) ?_
                      exact rw_sub (rw_lc rfl (rw_lc rfl (rw_lc rfl (rw_lc rfl rw_lz)))) (ih v1 v2 (1 : Int32) q265 h)
                    refine rw_icmp_le (tgt := 304) dX10_takesE_288 (by decide) (fun c258 => ?_) (fun c258 => ?_)
                    · refine rw_iconst (v := 0) dX10_takesE_304 (by decide) ?_
                      simp only [if_pos c258] at key
                      exact rw_sub (rw_lc rfl (rw_lc rfl (rw_lc rfl (rw_lc rfl rw_lz)))) key
                    · refine rw_aload_n dX10_takesE_291 rfl rfl ?_
                      refine rw_get dX10_takesE_292 fl_RX10_75 (sh_m w) (bw_kl (by decide)) rfl ?_
                      refine rw_iload_n dX10_takesE_295 rfl rfl ?_
                      refine rw_zald dX10_takesE_296 (sh_m_tested w) (bw_kl (by decide)) (bw_in g249) ?_
                      refine rw_if_eq (tgt := 304) dX10_takesE_297 (by decide) (fun c259 => ?_) (fun c259 => ?_)
                      · refine rw_iconst (v := 0) dX10_takesE_304 (by decide) ?_
                        simp only [if_neg c258, if_pos c259] at key
                        exact rw_sub (rw_lc rfl (rw_lc rfl (rw_lc rfl (rw_lc rfl rw_lz)))) key
                      · refine rw_iconst (v := 1) dX10_takesE_300 (by decide) ?_
                        refine rw_goto (tgt := 305) dX10_takesE_301 (by decide) ?_
                        simp only [if_neg c258, if_neg c259] at key
                        exact rw_sub (rw_lc rfl (rw_lc rfl (rw_lc rfl (rw_lc rfl rw_lz)))) key
                · have h := bw_if c250 h
                  refine rw_iconst (v := 0) dX10_takesE_266 (by decide) ?_
                  have h := Option.some.inj h
                  subst h
                  exact rw_zret dX10_takesE_267 bw_n0 ⟨rfl, rfl, bw_n0⟩
          · have h := bw_it c222 h
            refine rw_aload_n dX10_takesE_188 rfl rfl ?_
            refine rw_get dX10_takesE_189 fl_RX10_284 (sh_m w) (bw_kl (by decide)) rfl ?_
            refine rw_bipush (v := 41) dX10_takesE_192 (by decide) ?_
            refine rw_icmp_ne (tgt := 237) dX10_takesE_194 (by decide) (fun c266 => ?_) (fun c266 => ?_)
            · have h := bw_if c266 h
              refine rw_aload_n dX10_takesE_237 rfl rfl ?_
              refine rw_callV0 dX10_takesE_238 ln_RX10_322 mv_X10_signHere (sh_m w) (bw_kl (by decide)) (ct_X10_signHere rfl) (Nat.le_of_ble_eq_true rfl) (Nat.le_of_ble_eq_true rfl) (bw_kki ?_)
              refine rw_istore dX10_takesE_241 (by decide) ?_
              refine rw_iload dX10_takesE_243 rfl ?_
              refine rw_if_eq (tgt := 266) dX10_takesE_245 (by decide) (fun c267 => ?_) (fun c267 => ?_)
              · have h := bw_it c267 h
                refine rw_iconst (v := 0) dX10_takesE_266 (by decide) ?_
                have h := Option.some.inj h
                subst h
                exact rw_zret dX10_takesE_267 bw_n0 ⟨rfl, rfl, bw_n0⟩
              · have h := bw_if c267 h
                refine rw_iload dX10_takesE_248 rfl ?_
                refine rw_callS1 dX10_takesE_250 ln_RX10_299 ms_X10_rank (ct_X10_rank rfl) (Nat.le_of_ble_eq_true rfl) (Nat.le_of_ble_eq_true rfl) (bw_kki ?_)
                refine rw_iconst (v := 3) dX10_takesE_253 (by decide) ?_
                refine rw_icmp_ne (tgt := 268) dX10_takesE_254 (by decide) (fun c268 => ?_) (fun c268 => ?_)
                · have h := bw_if c268 h
                  refine rw_aload_n dX10_takesE_268 rfl rfl ?_
                  refine rw_get dX10_takesE_269 fl_RX10_75 (sh_m w) (bw_kl (by decide)) rfl ?_
                  refine rw_iload_n dX10_takesE_272 rfl rfl ?_
                  refine rw_iload dX10_takesE_273 rfl ?_
                  refine rw_callS1 dX10_takesE_275 ln_RX10_299 ms_X10_rank (ct_X10_rank rfl) (Nat.le_of_ble_eq_true rfl) (Nat.le_of_ble_eq_true rfl) (bw_kki ?_)
                  refine rw_iconst (v := 3) dX10_takesE_278 (by decide) ?_
                  refine rw_icmp_eq (tgt := 300) dX10_takesE_279 (by decide) (fun c269 => ?_) (fun c269 => ?_)
                  · have h := bw_it c269 h
                    refine rw_iconst (v := 1) dX10_takesE_300 (by decide) ?_
                    refine rw_goto (tgt := 305) dX10_takesE_301 (by decide) ?_
                    obtain ⟨g270, h⟩ := bw_gd h
                    refine rw_zast dX10_takesE_305 (sh_m_tested w) (bw_kl (by decide)) (bw_in g270) ?_
                    obtain ⟨M271, hM271, h⟩ := bw_mlE h
                    refine rw_m hM271.symm ?_
                    refine rw_aload_n dX10_takesE_306 rfl rfl ?_
                    refine rw_iload dX10_takesE_307 rfl ?_
                    refine rw_callS1 dX10_takesE_309 ln_RX10_299 ms_X10_rank (ct_X10_rank rfl) (Nat.le_of_ble_eq_true rfl) (Nat.le_of_ble_eq_true rfl) (bw_kki ?_)
                    obtain ⟨q272, hq272, h⟩ := bw_bd h
                    refine rw_callV1 dX10_takesE_312 ln_RX10_311 mv_X10_settle (sh_m w) (bw_kl (by decide)) (ct_X10_settle hq272) (Nat.le_of_ble_eq_true rfl) (Nat.le_of_ble_eq_true rfl) (bw_kkv ?_)
                    refine rw_aload_n dX10_takesE_315 rfl rfl ?_
                    refine rw_get dX10_takesE_316 fl_RX10_72 (sh_m w) (bw_kl (by decide)) rfl ?_
                    refine rw_aload_n dX10_takesE_319 rfl rfl ?_
                    refine rw_get dX10_takesE_320 fl_RX10_296 (sh_m w) (bw_kl (by decide)) rfl ?_
                    refine rw_iload dX10_takesE_323 rfl ?_
                    obtain ⟨g273, h⟩ := bw_gd h
                    refine rw_iast dX10_takesE_325 (sh_m_waits w) (bw_kl (by decide)) (bw_in g273) ?_
                    obtain ⟨M274, hM274, h⟩ := bw_mlE h
                    refine rw_m hM274.symm ?_
                    refine rw_aload_n dX10_takesE_326 rfl rfl ?_
                    refine rw_dup dX10_takesE_327 rfl ?_
                    refine rw_get dX10_takesE_328 fl_RX10_296 (sh_m w) (bw_kl (by decide)) rfl ?_
                    refine rw_iconst (v := 1) dX10_takesE_331 (by decide) ?_
                    refine rw_iadd dX10_takesE_332 ?_
                    refine rw_puti dX10_takesE_333 fl_RX10_296 fp_10_39 (sh_m w) (bw_kl (by decide)) (by decide) (fun _ => rfl) (fun _ => Nat.le_of_ble_eq_true rfl) ?_
                    obtain ⟨M275, hM275, h⟩ := bw_mlE h
                    refine rw_m hM275.symm ?_
                    refine rw_iconst (v := 1) dX10_takesE_336 (by decide) ?_
                    refine rw_istore_n dX10_takesE_337 rfl (by decide) ?_
                    refine rw_aload_n dX10_takesE_338 rfl rfl ?_
                    obtain ⟨q276, hq276, h⟩ := bw_bd h
                    refine rw_callV0 dX10_takesE_339 ln_RX10_293 mv_X10_go (sh_m w) (bw_kl (by decide)) (ct_X10_go hq276) (Nat.le_of_ble_eq_true rfl) (Nat.le_of_ble_eq_true rfl) (bw_kkv ?_)
                    refine rw_goto (tgt := 28) dX10_takesE_342 (by decide) ?_
                    exact rw_sub (rw_lc rfl (rw_lc rfl (rw_lc rfl (rw_lc rfl rw_lz)))) (ih v1 v2 (1 : Int32) q276 h)
                  · have h := bw_if c269 h
                    refine rw_iload dX10_takesE_282 rfl ?_
                    refine rw_callS1 dX10_takesE_284 ln_RX10_299 ms_X10_rank (ct_X10_rank rfl) (Nat.le_of_ble_eq_true rfl) (Nat.le_of_ble_eq_true rfl) (bw_kki ?_)
                    refine rw_iconst (v := 3) dX10_takesE_287 (by decide) ?_
                    refine rw_icmp_le (tgt := 304) dX10_takesE_288 (by decide) (fun c277 => ?_) (fun c277 => ?_)
                    · have h := bw_it c277 h
                      refine rw_iconst (v := 0) dX10_takesE_304 (by decide) ?_
                      obtain ⟨g278, h⟩ := bw_gd h
                      refine rw_zast dX10_takesE_305 (sh_m_tested w) (bw_kl (by decide)) (bw_in g278) ?_
                      obtain ⟨M279, hM279, h⟩ := bw_mlE h
                      refine rw_m hM279.symm ?_
                      refine rw_aload_n dX10_takesE_306 rfl rfl ?_
                      refine rw_iload dX10_takesE_307 rfl ?_
                      refine rw_callS1 dX10_takesE_309 ln_RX10_299 ms_X10_rank (ct_X10_rank rfl) (Nat.le_of_ble_eq_true rfl) (Nat.le_of_ble_eq_true rfl) (bw_kki ?_)
                      obtain ⟨q280, hq280, h⟩ := bw_bd h
                      refine rw_callV1 dX10_takesE_312 ln_RX10_311 mv_X10_settle (sh_m w) (bw_kl (by decide)) (ct_X10_settle hq280) (Nat.le_of_ble_eq_true rfl) (Nat.le_of_ble_eq_true rfl) (bw_kkv ?_)
                      refine rw_aload_n dX10_takesE_315 rfl rfl ?_
                      refine rw_get dX10_takesE_316 fl_RX10_72 (sh_m w) (bw_kl (by decide)) rfl ?_
                      refine rw_aload_n dX10_takesE_319 rfl rfl ?_
                      refine rw_get dX10_takesE_320 fl_RX10_296 (sh_m w) (bw_kl (by decide)) rfl ?_
                      refine rw_iload dX10_takesE_323 rfl ?_
                      obtain ⟨g281, h⟩ := bw_gd h
                      refine rw_iast dX10_takesE_325 (sh_m_waits w) (bw_kl (by decide)) (bw_in g281) ?_
                      obtain ⟨M282, hM282, h⟩ := bw_mlE h
                      refine rw_m hM282.symm ?_
                      refine rw_aload_n dX10_takesE_326 rfl rfl ?_
                      refine rw_dup dX10_takesE_327 rfl ?_
                      refine rw_get dX10_takesE_328 fl_RX10_296 (sh_m w) (bw_kl (by decide)) rfl ?_
                      refine rw_iconst (v := 1) dX10_takesE_331 (by decide) ?_
                      refine rw_iadd dX10_takesE_332 ?_
                      refine rw_puti dX10_takesE_333 fl_RX10_296 fp_10_39 (sh_m w) (bw_kl (by decide)) (by decide) (fun _ => rfl) (fun _ => Nat.le_of_ble_eq_true rfl) ?_
                      obtain ⟨M283, hM283, h⟩ := bw_mlE h
                      refine rw_m hM283.symm ?_
                      refine rw_iconst (v := 1) dX10_takesE_336 (by decide) ?_
                      refine rw_istore_n dX10_takesE_337 rfl (by decide) ?_
                      refine rw_aload_n dX10_takesE_338 rfl rfl ?_
                      obtain ⟨q284, hq284, h⟩ := bw_bd h
                      refine rw_callV0 dX10_takesE_339 ln_RX10_293 mv_X10_go (sh_m w) (bw_kl (by decide)) (ct_X10_go hq284) (Nat.le_of_ble_eq_true rfl) (Nat.le_of_ble_eq_true rfl) (bw_kkv ?_)
                      refine rw_goto (tgt := 28) dX10_takesE_342 (by decide) ?_
                      exact rw_sub (rw_lc rfl (rw_lc rfl (rw_lc rfl (rw_lc rfl rw_lz)))) (ih v1 v2 (1 : Int32) q284 h)
                    · have h := bw_if c277 h
                      refine rw_aload_n dX10_takesE_291 rfl rfl ?_
                      refine rw_get dX10_takesE_292 fl_RX10_75 (sh_m w) (bw_kl (by decide)) rfl ?_
                      refine rw_iload_n dX10_takesE_295 rfl rfl ?_
                      obtain ⟨g285, h⟩ := bw_gd h
                      refine rw_zald dX10_takesE_296 (sh_m_tested w) (bw_kl (by decide)) (bw_in g285) ?_
                      have key : RW w 3 0 0 0 0 cX10_takesE RX10 5 (some .boolean) (bw_Z w (bw_pz (out.1) out.2)) 305 [(0, .ref (bw_ad w 93)), (1, .int v1), (2, .int v2), (4, .int (f_X10_signHere M))] [.int (if (M 115 v1.toNatClampNeg) = 0 then (0 : Int32) else (1 : Int32)), .int v1, .ref (bw_ad w 115)] M := by
                        refine rw_zast dX10_takesE_305 (sh_m_tested w) (bw_kl (by decide)) (bw_in g285) ?_
                        obtain ⟨M287, hM287, h⟩ := bw_mlE h
                        refine rw_m hM287.symm ?_
                        refine rw_aload_n dX10_takesE_306 rfl rfl ?_
                        refine rw_iload dX10_takesE_307 rfl ?_
                        refine rw_callS1 dX10_takesE_309 ln_RX10_299 ms_X10_rank (ct_X10_rank rfl) (Nat.le_of_ble_eq_true rfl) (Nat.le_of_ble_eq_true rfl) (bw_kki ?_)
                        obtain ⟨q288, hq288, h⟩ := bw_bd h
                        refine rw_callV1 dX10_takesE_312 ln_RX10_311 mv_X10_settle (sh_m w) (bw_kl (by decide)) (ct_X10_settle hq288) (Nat.le_of_ble_eq_true rfl) (Nat.le_of_ble_eq_true rfl) (bw_kkv ?_)
                        refine rw_aload_n dX10_takesE_315 rfl rfl ?_
                        refine rw_get dX10_takesE_316 fl_RX10_72 (sh_m w) (bw_kl (by decide)) rfl ?_
                        refine rw_aload_n dX10_takesE_319 rfl rfl ?_
                        refine rw_get dX10_takesE_320 fl_RX10_296 (sh_m w) (bw_kl (by decide)) rfl ?_
                        refine rw_iload dX10_takesE_323 rfl ?_
                        obtain ⟨g289, h⟩ := bw_gd h
                        refine rw_iast dX10_takesE_325 (sh_m_waits w) (bw_kl (by decide)) (bw_in g289) ?_
                        obtain ⟨M290, hM290, h⟩ := bw_mlE h
                        refine rw_m hM290.symm ?_
                        refine rw_aload_n dX10_takesE_326 rfl rfl ?_
                        refine rw_dup dX10_takesE_327 rfl ?_
                        refine rw_get dX10_takesE_328 fl_RX10_296 (sh_m w) (bw_kl (by decide)) rfl ?_
                        refine rw_iconst (v := 1) dX10_takesE_331 (by decide) ?_
                        refine rw_iadd dX10_takesE_332 ?_
                        refine rw_puti dX10_takesE_333 fl_RX10_296 fp_10_39 (sh_m w) (bw_kl (by decide)) (by decide) (fun _ => rfl) (fun _ => Nat.le_of_ble_eq_true rfl) ?_
                        obtain ⟨M291, hM291, h⟩ := bw_mlE h
                        refine rw_m hM291.symm ?_
                        refine rw_iconst (v := 1) dX10_takesE_336 (by decide) ?_
                        refine rw_istore_n dX10_takesE_337 rfl (by decide) ?_
                        refine rw_aload_n dX10_takesE_338 rfl rfl ?_
                        obtain ⟨q292, hq292, h⟩ := bw_bd h
                        refine rw_callV0 dX10_takesE_339 ln_RX10_293 mv_X10_go (sh_m w) (bw_kl (by decide)) (ct_X10_go hq292) (Nat.le_of_ble_eq_true rfl) (Nat.le_of_ble_eq_true rfl) (bw_kkv ?_)
                        refine rw_goto (tgt := 28) dX10_takesE_342 (by decide) ?_
                        exact rw_sub (rw_lc rfl (rw_lc rfl (rw_lc rfl (rw_lc rfl rw_lz)))) (ih v1 v2 (1 : Int32) q292 h)
                      refine rw_if_eq (tgt := 304) dX10_takesE_297 (by decide) (fun c286 => ?_) (fun c286 => ?_)
                      · refine rw_iconst (v := 0) dX10_takesE_304 (by decide) ?_
                        simp only [if_pos c286] at key
                        exact rw_sub (rw_lc rfl (rw_lc rfl (rw_lc rfl (rw_lc rfl rw_lz)))) key
                      · refine rw_iconst (v := 1) dX10_takesE_300 (by decide) ?_
                        refine rw_goto (tgt := 305) dX10_takesE_301 (by decide) ?_
                        simp only [if_neg c286] at key
                        exact rw_sub (rw_lc rfl (rw_lc rfl (rw_lc rfl (rw_lc rfl rw_lz)))) key
                · have h := bw_it c268 h
                  refine rw_aload_n dX10_takesE_257 rfl rfl ?_
                  refine rw_get dX10_takesE_258 fl_RX10_75 (sh_m w) (bw_kl (by decide)) rfl ?_
                  refine rw_iload_n dX10_takesE_261 rfl rfl ?_
                  obtain ⟨g293, h⟩ := bw_gd h
                  refine rw_zald dX10_takesE_262 (sh_m_tested w) (bw_kl (by decide)) (bw_in g293) ?_
                  refine rw_if_eq (tgt := 268) dX10_takesE_263 (by decide) (fun c294 => ?_) (fun c294 => ?_)
                  · have h := bw_it c294 h
                    refine rw_aload_n dX10_takesE_268 rfl rfl ?_
                    refine rw_get dX10_takesE_269 fl_RX10_75 (sh_m w) (bw_kl (by decide)) rfl ?_
                    refine rw_iload_n dX10_takesE_272 rfl rfl ?_
                    refine rw_iload dX10_takesE_273 rfl ?_
                    refine rw_callS1 dX10_takesE_275 ln_RX10_299 ms_X10_rank (ct_X10_rank rfl) (Nat.le_of_ble_eq_true rfl) (Nat.le_of_ble_eq_true rfl) (bw_kki ?_)
                    refine rw_iconst (v := 3) dX10_takesE_278 (by decide) ?_
                    refine rw_icmp_eq (tgt := 300) dX10_takesE_279 (by decide) (fun c295 => ?_) (fun c295 => ?_)
                    · have h := bw_it c295 h
                      refine rw_iconst (v := 1) dX10_takesE_300 (by decide) ?_
                      refine rw_goto (tgt := 305) dX10_takesE_301 (by decide) ?_
                      refine rw_zast dX10_takesE_305 (sh_m_tested w) (bw_kl (by decide)) (bw_in g293) ?_
                      obtain ⟨M296, hM296, h⟩ := bw_mlE h
                      refine rw_m hM296.symm ?_
                      refine rw_aload_n dX10_takesE_306 rfl rfl ?_
                      refine rw_iload dX10_takesE_307 rfl ?_
                      refine rw_callS1 dX10_takesE_309 ln_RX10_299 ms_X10_rank (ct_X10_rank rfl) (Nat.le_of_ble_eq_true rfl) (Nat.le_of_ble_eq_true rfl) (bw_kki ?_)
                      obtain ⟨q297, hq297, h⟩ := bw_bd h
                      refine rw_callV1 dX10_takesE_312 ln_RX10_311 mv_X10_settle (sh_m w) (bw_kl (by decide)) (ct_X10_settle hq297) (Nat.le_of_ble_eq_true rfl) (Nat.le_of_ble_eq_true rfl) (bw_kkv ?_)
                      refine rw_aload_n dX10_takesE_315 rfl rfl ?_
                      refine rw_get dX10_takesE_316 fl_RX10_72 (sh_m w) (bw_kl (by decide)) rfl ?_
                      refine rw_aload_n dX10_takesE_319 rfl rfl ?_
                      refine rw_get dX10_takesE_320 fl_RX10_296 (sh_m w) (bw_kl (by decide)) rfl ?_
                      refine rw_iload dX10_takesE_323 rfl ?_
                      obtain ⟨g298, h⟩ := bw_gd h
                      refine rw_iast dX10_takesE_325 (sh_m_waits w) (bw_kl (by decide)) (bw_in g298) ?_
                      obtain ⟨M299, hM299, h⟩ := bw_mlE h
                      refine rw_m hM299.symm ?_
                      refine rw_aload_n dX10_takesE_326 rfl rfl ?_
                      refine rw_dup dX10_takesE_327 rfl ?_
                      refine rw_get dX10_takesE_328 fl_RX10_296 (sh_m w) (bw_kl (by decide)) rfl ?_
                      refine rw_iconst (v := 1) dX10_takesE_331 (by decide) ?_
                      refine rw_iadd dX10_takesE_332 ?_
                      refine rw_puti dX10_takesE_333 fl_RX10_296 fp_10_39 (sh_m w) (bw_kl (by decide)) (by decide) (fun _ => rfl) (fun _ => Nat.le_of_ble_eq_true rfl) ?_
                      obtain ⟨M300, hM300, h⟩ := bw_mlE h
                      refine rw_m hM300.symm ?_
                      refine rw_iconst (v := 1) dX10_takesE_336 (by decide) ?_
                      refine rw_istore_n dX10_takesE_337 rfl (by decide) ?_
                      refine rw_aload_n dX10_takesE_338 rfl rfl ?_
                      obtain ⟨q301, hq301, h⟩ := bw_bd h
                      refine rw_callV0 dX10_takesE_339 ln_RX10_293 mv_X10_go (sh_m w) (bw_kl (by decide)) (ct_X10_go hq301) (Nat.le_of_ble_eq_true rfl) (Nat.le_of_ble_eq_true rfl) (bw_kkv ?_)
                      refine rw_goto (tgt := 28) dX10_takesE_342 (by decide) ?_
                      exact rw_sub (rw_lc rfl (rw_lc rfl (rw_lc rfl (rw_lc rfl rw_lz)))) (ih v1 v2 (1 : Int32) q301 h)
                    · have h := bw_if c295 h
                      refine rw_iload dX10_takesE_282 rfl ?_
                      refine rw_callS1 dX10_takesE_284 ln_RX10_299 ms_X10_rank (ct_X10_rank rfl) (Nat.le_of_ble_eq_true rfl) (Nat.le_of_ble_eq_true rfl) (bw_kki ?_)
                      refine rw_iconst (v := 3) dX10_takesE_287 (by decide) ?_
                      have key : RW w 3 0 0 0 0 cX10_takesE RX10 5 (some .boolean) (bw_Z w (bw_pz (out.1) out.2)) 305 [(0, .ref (bw_ad w 93)), (1, .int v1), (2, .int v2), (4, .int (f_X10_signHere M))] [.int (if (f_X10_rank (f_X10_signHere M)) ≤ (3 : Int32) then (0 : Int32) else (if (M 115 v1.toNatClampNeg) = 0 then (0 : Int32) else (1 : Int32))), .int v1, .ref (bw_ad w 115)] M := by
                        refine rw_zast dX10_takesE_305 (sh_m_tested w) (bw_kl (by decide)) (bw_in g293) ?_
                        obtain ⟨M304, hM304, h⟩ := bw_mlE h
                        refine rw_m hM304.symm ?_
                        refine rw_aload_n dX10_takesE_306 rfl rfl ?_
                        refine rw_iload dX10_takesE_307 rfl ?_
                        refine rw_callS1 dX10_takesE_309 ln_RX10_299 ms_X10_rank (ct_X10_rank rfl) (Nat.le_of_ble_eq_true rfl) (Nat.le_of_ble_eq_true rfl) (bw_kki ?_)
                        obtain ⟨q305, hq305, h⟩ := bw_bd h
                        refine rw_callV1 dX10_takesE_312 ln_RX10_311 mv_X10_settle (sh_m w) (bw_kl (by decide)) (ct_X10_settle hq305) (Nat.le_of_ble_eq_true rfl) (Nat.le_of_ble_eq_true rfl) (bw_kkv ?_)
                        refine rw_aload_n dX10_takesE_315 rfl rfl ?_
                        refine rw_get dX10_takesE_316 fl_RX10_72 (sh_m w) (bw_kl (by decide)) rfl ?_
                        refine rw_aload_n dX10_takesE_319 rfl rfl ?_
                        refine rw_get dX10_takesE_320 fl_RX10_296 (sh_m w) (bw_kl (by decide)) rfl ?_
                        refine rw_iload dX10_takesE_323 rfl ?_
                        obtain ⟨g306, h⟩ := bw_gd h
                        refine rw_iast dX10_takesE_325 (sh_m_waits w) (bw_kl (by decide)) (bw_in g306) ?_
                        obtain ⟨M307, hM307, h⟩ := bw_mlE h
                        refine rw_m hM307.symm ?_
                        refine rw_aload_n dX10_takesE_326 rfl rfl ?_
                        refine rw_dup dX10_takesE_327 rfl ?_
                        refine rw_get dX10_takesE_328 fl_RX10_296 (sh_m w) (bw_kl (by decide)) rfl ?_
                        refine rw_iconst (v := 1) dX10_takesE_331 (by decide) ?_
                        refine rw_iadd dX10_takesE_332 ?_
                        refine rw_puti dX10_takesE_333 fl_RX10_296 fp_10_39 (sh_m w) (bw_kl (by decide)) (by decide) (fun _ => rfl) (fun _ => Nat.le_of_ble_eq_true rfl) ?_
                        obtain ⟨M308, hM308, h⟩ := bw_mlE h
                        refine rw_m hM308.symm ?_
                        refine rw_iconst (v := 1) dX10_takesE_336 (by decide) ?_
                        refine rw_istore_n dX10_takesE_337 rfl (by decide) ?_
                        refine rw_aload_n dX10_takesE_338 rfl rfl ?_
                        obtain ⟨q309, hq309, h⟩ := bw_bd h
                        refine rw_callV0 dX10_takesE_339 ln_RX10_293 mv_X10_go (sh_m w) (bw_kl (by decide)) (ct_X10_go hq309) (Nat.le_of_ble_eq_true rfl) (Nat.le_of_ble_eq_true rfl) (bw_kkv ?_)
                        refine rw_goto (tgt := 28) dX10_takesE_342 (by decide) ?_
                        exact rw_sub (rw_lc rfl (rw_lc rfl (rw_lc rfl (rw_lc rfl rw_lz)))) (ih v1 v2 (1 : Int32) q309 h)
                      refine rw_icmp_le (tgt := 304) dX10_takesE_288 (by decide) (fun c302 => ?_) (fun c302 => ?_)
                      · refine rw_iconst (v := 0) dX10_takesE_304 (by decide) ?_
                        simp only [if_pos c302] at key
                        exact rw_sub (rw_lc rfl (rw_lc rfl (rw_lc rfl (rw_lc rfl rw_lz)))) key
                      · refine rw_aload_n dX10_takesE_291 rfl rfl ?_
                        refine rw_get dX10_takesE_292 fl_RX10_75 (sh_m w) (bw_kl (by decide)) rfl ?_
                        refine rw_iload_n dX10_takesE_295 rfl rfl ?_
                        refine rw_zald dX10_takesE_296 (sh_m_tested w) (bw_kl (by decide)) (bw_in g293) ?_
                        refine rw_if_eq (tgt := 304) dX10_takesE_297 (by decide) (fun c303 => ?_) (fun c303 => ?_)
                        · refine rw_iconst (v := 0) dX10_takesE_304 (by decide) ?_
                          simp only [if_neg c302, if_pos c303] at key
                          exact rw_sub (rw_lc rfl (rw_lc rfl (rw_lc rfl (rw_lc rfl rw_lz)))) key
                        · refine rw_iconst (v := 1) dX10_takesE_300 (by decide) ?_
                          refine rw_goto (tgt := 305) dX10_takesE_301 (by decide) ?_
                          simp only [if_neg c302, if_neg c303] at key
                          exact rw_sub (rw_lc rfl (rw_lc rfl (rw_lc rfl (rw_lc rfl rw_lz)))) key
                  · have h := bw_if c294 h
                    refine rw_iconst (v := 0) dX10_takesE_266 (by decide) ?_
                    have h := Option.some.inj h
                    subst h
                    exact rw_zret dX10_takesE_267 bw_n0 ⟨rfl, rfl, bw_n0⟩
            · have h := bw_it c266 h
              refine rw_iload_n dX10_takesE_197 rfl rfl ?_
              refine rw_if_le (tgt := 237) dX10_takesE_198 (by decide) (fun c310 => ?_) (fun c310 => ?_)
              · have h := bw_it c310 h
                refine rw_aload_n dX10_takesE_237 rfl rfl ?_
                refine rw_callV0 dX10_takesE_238 ln_RX10_322 mv_X10_signHere (sh_m w) (bw_kl (by decide)) (ct_X10_signHere rfl) (Nat.le_of_ble_eq_true rfl) (Nat.le_of_ble_eq_true rfl) (bw_kki ?_)
                refine rw_istore dX10_takesE_241 (by decide) ?_
                refine rw_iload dX10_takesE_243 rfl ?_
                refine rw_if_eq (tgt := 266) dX10_takesE_245 (by decide) (fun c311 => ?_) (fun c311 => ?_)
                · have h := bw_it c311 h
                  refine rw_iconst (v := 0) dX10_takesE_266 (by decide) ?_
                  have h := Option.some.inj h
                  subst h
                  exact rw_zret dX10_takesE_267 bw_n0 ⟨rfl, rfl, bw_n0⟩
                · have h := bw_if c311 h
                  refine rw_iload dX10_takesE_248 rfl ?_
                  refine rw_callS1 dX10_takesE_250 ln_RX10_299 ms_X10_rank (ct_X10_rank rfl) (Nat.le_of_ble_eq_true rfl) (Nat.le_of_ble_eq_true rfl) (bw_kki ?_)
                  refine rw_iconst (v := 3) dX10_takesE_253 (by decide) ?_
                  refine rw_icmp_ne (tgt := 268) dX10_takesE_254 (by decide) (fun c312 => ?_) (fun c312 => ?_)
                  · have h := bw_if c312 h
                    refine rw_aload_n dX10_takesE_268 rfl rfl ?_
                    refine rw_get dX10_takesE_269 fl_RX10_75 (sh_m w) (bw_kl (by decide)) rfl ?_
                    refine rw_iload_n dX10_takesE_272 rfl rfl ?_
                    refine rw_iload dX10_takesE_273 rfl ?_
                    refine rw_callS1 dX10_takesE_275 ln_RX10_299 ms_X10_rank (ct_X10_rank rfl) (Nat.le_of_ble_eq_true rfl) (Nat.le_of_ble_eq_true rfl) (bw_kki ?_)
                    refine rw_iconst (v := 3) dX10_takesE_278 (by decide) ?_
                    refine rw_icmp_eq (tgt := 300) dX10_takesE_279 (by decide) (fun c313 => ?_) (fun c313 => ?_)
                    · have h := bw_it c313 h
                      refine rw_iconst (v := 1) dX10_takesE_300 (by decide) ?_
                      refine rw_goto (tgt := 305) dX10_takesE_301 (by decide) ?_
                      obtain ⟨g314, h⟩ := bw_gd h
                      refine rw_zast dX10_takesE_305 (sh_m_tested w) (bw_kl (by decide)) (bw_in g314) ?_
                      obtain ⟨M315, hM315, h⟩ := bw_mlE h
                      refine rw_m hM315.symm ?_
                      refine rw_aload_n dX10_takesE_306 rfl rfl ?_
                      refine rw_iload dX10_takesE_307 rfl ?_
                      refine rw_callS1 dX10_takesE_309 ln_RX10_299 ms_X10_rank (ct_X10_rank rfl) (Nat.le_of_ble_eq_true rfl) (Nat.le_of_ble_eq_true rfl) (bw_kki ?_)
                      obtain ⟨q316, hq316, h⟩ := bw_bd h
                      refine rw_callV1 dX10_takesE_312 ln_RX10_311 mv_X10_settle (sh_m w) (bw_kl (by decide)) (ct_X10_settle hq316) (Nat.le_of_ble_eq_true rfl) (Nat.le_of_ble_eq_true rfl) (bw_kkv ?_)
                      refine rw_aload_n dX10_takesE_315 rfl rfl ?_
                      refine rw_get dX10_takesE_316 fl_RX10_72 (sh_m w) (bw_kl (by decide)) rfl ?_
                      refine rw_aload_n dX10_takesE_319 rfl rfl ?_
                      refine rw_get dX10_takesE_320 fl_RX10_296 (sh_m w) (bw_kl (by decide)) rfl ?_
                      refine rw_iload dX10_takesE_323 rfl ?_
                      obtain ⟨g317, h⟩ := bw_gd h
                      refine rw_iast dX10_takesE_325 (sh_m_waits w) (bw_kl (by decide)) (bw_in g317) ?_
                      obtain ⟨M318, hM318, h⟩ := bw_mlE h
                      refine rw_m hM318.symm ?_
                      refine rw_aload_n dX10_takesE_326 rfl rfl ?_
                      refine rw_dup dX10_takesE_327 rfl ?_
                      refine rw_get dX10_takesE_328 fl_RX10_296 (sh_m w) (bw_kl (by decide)) rfl ?_
                      refine rw_iconst (v := 1) dX10_takesE_331 (by decide) ?_
                      refine rw_iadd dX10_takesE_332 ?_
                      refine rw_puti dX10_takesE_333 fl_RX10_296 fp_10_39 (sh_m w) (bw_kl (by decide)) (by decide) (fun _ => rfl) (fun _ => Nat.le_of_ble_eq_true rfl) ?_
                      obtain ⟨M319, hM319, h⟩ := bw_mlE h
                      refine rw_m hM319.symm ?_
                      refine rw_iconst (v := 1) dX10_takesE_336 (by decide) ?_
                      refine rw_istore_n dX10_takesE_337 rfl (by decide) ?_
                      refine rw_aload_n dX10_takesE_338 rfl rfl ?_
                      obtain ⟨q320, hq320, h⟩ := bw_bd h
                      refine rw_callV0 dX10_takesE_339 ln_RX10_293 mv_X10_go (sh_m w) (bw_kl (by decide)) (ct_X10_go hq320) (Nat.le_of_ble_eq_true rfl) (Nat.le_of_ble_eq_true rfl) (bw_kkv ?_)
                      refine rw_goto (tgt := 28) dX10_takesE_342 (by decide) ?_
                      exact rw_sub (rw_lc rfl (rw_lc rfl (rw_lc rfl (rw_lc rfl rw_lz)))) (ih v1 v2 (1 : Int32) q320 h)
                    · have h := bw_if c313 h
                      refine rw_iload dX10_takesE_282 rfl ?_
                      refine rw_callS1 dX10_takesE_284 ln_RX10_299 ms_X10_rank (ct_X10_rank rfl) (Nat.le_of_ble_eq_true rfl) (Nat.le_of_ble_eq_true rfl) (bw_kki ?_)
                      refine rw_iconst (v := 3) dX10_takesE_287 (by decide) ?_
                      refine rw_icmp_le (tgt := 304) dX10_takesE_288 (by decide) (fun c321 => ?_) (fun c321 => ?_)
                      · have h := bw_it c321 h
                        refine rw_iconst (v := 0) dX10_takesE_304 (by decide) ?_
                        obtain ⟨g322, h⟩ := bw_gd h
                        refine rw_zast dX10_takesE_305 (sh_m_tested w) (bw_kl (by decide)) (bw_in g322) ?_
                        obtain ⟨M323, hM323, h⟩ := bw_mlE h
                        refine rw_m hM323.symm ?_
                        refine rw_aload_n dX10_takesE_306 rfl rfl ?_
                        refine rw_iload dX10_takesE_307 rfl ?_
                        refine rw_callS1 dX10_takesE_309 ln_RX10_299 ms_X10_rank (ct_X10_rank rfl) (Nat.le_of_ble_eq_true rfl) (Nat.le_of_ble_eq_true rfl) (bw_kki ?_)
                        obtain ⟨q324, hq324, h⟩ := bw_bd h
                        refine rw_callV1 dX10_takesE_312 ln_RX10_311 mv_X10_settle (sh_m w) (bw_kl (by decide)) (ct_X10_settle hq324) (Nat.le_of_ble_eq_true rfl) (Nat.le_of_ble_eq_true rfl) (bw_kkv ?_)
                        refine rw_aload_n dX10_takesE_315 rfl rfl ?_
                        refine rw_get dX10_takesE_316 fl_RX10_72 (sh_m w) (bw_kl (by decide)) rfl ?_
                        refine rw_aload_n dX10_takesE_319 rfl rfl ?_
                        refine rw_get dX10_takesE_320 fl_RX10_296 (sh_m w) (bw_kl (by decide)) rfl ?_
                        refine rw_iload dX10_takesE_323 rfl ?_
                        obtain ⟨g325, h⟩ := bw_gd h
                        refine rw_iast dX10_takesE_325 (sh_m_waits w) (bw_kl (by decide)) (bw_in g325) ?_
                        obtain ⟨M326, hM326, h⟩ := bw_mlE h
                        refine rw_m hM326.symm ?_
                        refine rw_aload_n dX10_takesE_326 rfl rfl ?_
                        refine rw_dup dX10_takesE_327 rfl ?_
                        refine rw_get dX10_takesE_328 fl_RX10_296 (sh_m w) (bw_kl (by decide)) rfl ?_
                        refine rw_iconst (v := 1) dX10_takesE_331 (by decide) ?_
                        refine rw_iadd dX10_takesE_332 ?_
                        refine rw_puti dX10_takesE_333 fl_RX10_296 fp_10_39 (sh_m w) (bw_kl (by decide)) (by decide) (fun _ => rfl) (fun _ => Nat.le_of_ble_eq_true rfl) ?_
                        obtain ⟨M327, hM327, h⟩ := bw_mlE h
                        refine rw_m hM327.symm ?_
                        refine rw_iconst (v := 1) dX10_takesE_336 (by decide) ?_
                        refine rw_istore_n dX10_takesE_337 rfl (by decide) ?_
                        refine rw_aload_n dX10_takesE_338 rfl rfl ?_
                        obtain ⟨q328, hq328, h⟩ := bw_bd h
                        refine rw_callV0 dX10_takesE_339 ln_RX10_293 mv_X10_go (sh_m w) (bw_kl (by decide)) (ct_X10_go hq328) (Nat.le_of_ble_eq_true rfl) (Nat.le_of_ble_eq_true rfl) (bw_kkv ?_)
                        refine rw_goto (tgt := 28) dX10_takesE_342 (by decide) ?_
                        exact rw_sub (rw_lc rfl (rw_lc rfl (rw_lc rfl (rw_lc rfl rw_lz)))) (ih v1 v2 (1 : Int32) q328 h)
                      · have h := bw_if c321 h
                        refine rw_aload_n dX10_takesE_291 rfl rfl ?_
                        refine rw_get dX10_takesE_292 fl_RX10_75 (sh_m w) (bw_kl (by decide)) rfl ?_
                        refine rw_iload_n dX10_takesE_295 rfl rfl ?_
                        obtain ⟨g329, h⟩ := bw_gd h
                        refine rw_zald dX10_takesE_296 (sh_m_tested w) (bw_kl (by decide)) (bw_in g329) ?_
                        have key : RW w 3 0 0 0 0 cX10_takesE RX10 5 (some .boolean) (bw_Z w (bw_pz (out.1) out.2)) 305 [(0, .ref (bw_ad w 93)), (1, .int v1), (2, .int v2), (4, .int (f_X10_signHere M))] [.int (if (M 115 v1.toNatClampNeg) = 0 then (0 : Int32) else (1 : Int32)), .int v1, .ref (bw_ad w 115)] M := by
                          refine rw_zast dX10_takesE_305 (sh_m_tested w) (bw_kl (by decide)) (bw_in g329) ?_
                          obtain ⟨M331, hM331, h⟩ := bw_mlE h
                          refine rw_m hM331.symm ?_
                          refine rw_aload_n dX10_takesE_306 rfl rfl ?_
                          refine rw_iload dX10_takesE_307 rfl ?_
                          refine rw_callS1 dX10_takesE_309 ln_RX10_299 ms_X10_rank (ct_X10_rank rfl) (Nat.le_of_ble_eq_true rfl) (Nat.le_of_ble_eq_true rfl) (bw_kki ?_)
                          obtain ⟨q332, hq332, h⟩ := bw_bd h
                          refine rw_callV1 dX10_takesE_312 ln_RX10_311 mv_X10_settle (sh_m w) (bw_kl (by decide)) (ct_X10_settle hq332) (Nat.le_of_ble_eq_true rfl) (Nat.le_of_ble_eq_true rfl) (bw_kkv ?_)
                          refine rw_aload_n dX10_takesE_315 rfl rfl ?_
                          refine rw_get dX10_takesE_316 fl_RX10_72 (sh_m w) (bw_kl (by decide)) rfl ?_
                          refine rw_aload_n dX10_takesE_319 rfl rfl ?_
                          refine rw_get dX10_takesE_320 fl_RX10_296 (sh_m w) (bw_kl (by decide)) rfl ?_
                          refine rw_iload dX10_takesE_323 rfl ?_
                          obtain ⟨g333, h⟩ := bw_gd h
                          refine rw_iast dX10_takesE_325 (sh_m_waits w) (bw_kl (by decide)) (bw_in g333) ?_
                          obtain ⟨M334, hM334, h⟩ := bw_mlE h
                          refine rw_m hM334.symm ?_
                          refine rw_aload_n dX10_takesE_326 rfl rfl ?_
                          refine rw_dup dX10_takesE_327 rfl ?_
                          refine rw_get dX10_takesE_328 fl_RX10_296 (sh_m w) (bw_kl (by decide)) rfl ?_
                          refine rw_iconst (v := 1) dX10_takesE_331 (by decide) ?_
                          refine rw_iadd dX10_takesE_332 ?_
                          refine rw_puti dX10_takesE_333 fl_RX10_296 fp_10_39 (sh_m w) (bw_kl (by decide)) (by decide) (fun _ => rfl) (fun _ => Nat.le_of_ble_eq_true rfl) ?_
                          obtain ⟨M335, hM335, h⟩ := bw_mlE h
                          refine rw_m hM335.symm ?_
                          refine rw_iconst (v := 1) dX10_takesE_336 (by decide) ?_
                          refine rw_istore_n dX10_takesE_337 rfl (by decide) ?_
                          refine rw_aload_n dX10_takesE_338 rfl rfl ?_
                          obtain ⟨q336, hq336, h⟩ := bw_bd h
                          refine rw_callV0 dX10_takesE_339 ln_RX10_293 mv_X10_go (sh_m w) (bw_kl (by decide)) (ct_X10_go hq336) (Nat.le_of_ble_eq_true rfl) (Nat.le_of_ble_eq_true rfl) (bw_kkv ?_)
                          refine rw_goto (tgt := 28) dX10_takesE_342 (by decide) ?_
                          exact rw_sub (rw_lc rfl (rw_lc rfl (rw_lc rfl (rw_lc rfl rw_lz)))) (ih v1 v2 (1 : Int32) q336 h)
                        refine rw_if_eq (tgt := 304) dX10_takesE_297 (by decide) (fun c330 => ?_) (fun c330 => ?_)
                        · refine rw_iconst (v := 0) dX10_takesE_304 (by decide) ?_
                          simp only [if_pos c330] at key
                          exact rw_sub (rw_lc rfl (rw_lc rfl (rw_lc rfl (rw_lc rfl rw_lz)))) key
                        · refine rw_iconst (v := 1) dX10_takesE_300 (by decide) ?_
                          refine rw_goto (tgt := 305) dX10_takesE_301 (by decide) ?_
                          simp only [if_neg c330] at key
                          exact rw_sub (rw_lc rfl (rw_lc rfl (rw_lc rfl (rw_lc rfl rw_lz)))) key
                  · have h := bw_it c312 h
                    refine rw_aload_n dX10_takesE_257 rfl rfl ?_
                    refine rw_get dX10_takesE_258 fl_RX10_75 (sh_m w) (bw_kl (by decide)) rfl ?_
                    refine rw_iload_n dX10_takesE_261 rfl rfl ?_
                    obtain ⟨g337, h⟩ := bw_gd h
                    refine rw_zald dX10_takesE_262 (sh_m_tested w) (bw_kl (by decide)) (bw_in g337) ?_
                    refine rw_if_eq (tgt := 268) dX10_takesE_263 (by decide) (fun c338 => ?_) (fun c338 => ?_)
                    · have h := bw_it c338 h
                      refine rw_aload_n dX10_takesE_268 rfl rfl ?_
                      refine rw_get dX10_takesE_269 fl_RX10_75 (sh_m w) (bw_kl (by decide)) rfl ?_
                      refine rw_iload_n dX10_takesE_272 rfl rfl ?_
                      refine rw_iload dX10_takesE_273 rfl ?_
                      refine rw_callS1 dX10_takesE_275 ln_RX10_299 ms_X10_rank (ct_X10_rank rfl) (Nat.le_of_ble_eq_true rfl) (Nat.le_of_ble_eq_true rfl) (bw_kki ?_)
                      refine rw_iconst (v := 3) dX10_takesE_278 (by decide) ?_
                      refine rw_icmp_eq (tgt := 300) dX10_takesE_279 (by decide) (fun c339 => ?_) (fun c339 => ?_)
                      · have h := bw_it c339 h
                        refine rw_iconst (v := 1) dX10_takesE_300 (by decide) ?_
                        refine rw_goto (tgt := 305) dX10_takesE_301 (by decide) ?_
                        refine rw_zast dX10_takesE_305 (sh_m_tested w) (bw_kl (by decide)) (bw_in g337) ?_
                        obtain ⟨M340, hM340, h⟩ := bw_mlE h
                        refine rw_m hM340.symm ?_
                        refine rw_aload_n dX10_takesE_306 rfl rfl ?_
                        refine rw_iload dX10_takesE_307 rfl ?_
                        refine rw_callS1 dX10_takesE_309 ln_RX10_299 ms_X10_rank (ct_X10_rank rfl) (Nat.le_of_ble_eq_true rfl) (Nat.le_of_ble_eq_true rfl) (bw_kki ?_)
                        obtain ⟨q341, hq341, h⟩ := bw_bd h
                        refine rw_callV1 dX10_takesE_312 ln_RX10_311 mv_X10_settle (sh_m w) (bw_kl (by decide)) (ct_X10_settle hq341) (Nat.le_of_ble_eq_true rfl) (Nat.le_of_ble_eq_true rfl) (bw_kkv ?_)
                        refine rw_aload_n dX10_takesE_315 rfl rfl ?_
                        refine rw_get dX10_takesE_316 fl_RX10_72 (sh_m w) (bw_kl (by decide)) rfl ?_
                        refine rw_aload_n dX10_takesE_319 rfl rfl ?_
                        refine rw_get dX10_takesE_320 fl_RX10_296 (sh_m w) (bw_kl (by decide)) rfl ?_
                        refine rw_iload dX10_takesE_323 rfl ?_
                        obtain ⟨g342, h⟩ := bw_gd h
                        refine rw_iast dX10_takesE_325 (sh_m_waits w) (bw_kl (by decide)) (bw_in g342) ?_
                        obtain ⟨M343, hM343, h⟩ := bw_mlE h
                        refine rw_m hM343.symm ?_
                        refine rw_aload_n dX10_takesE_326 rfl rfl ?_
                        refine rw_dup dX10_takesE_327 rfl ?_
                        refine rw_get dX10_takesE_328 fl_RX10_296 (sh_m w) (bw_kl (by decide)) rfl ?_
                        refine rw_iconst (v := 1) dX10_takesE_331 (by decide) ?_
                        refine rw_iadd dX10_takesE_332 ?_
                        refine rw_puti dX10_takesE_333 fl_RX10_296 fp_10_39 (sh_m w) (bw_kl (by decide)) (by decide) (fun _ => rfl) (fun _ => Nat.le_of_ble_eq_true rfl) ?_
                        obtain ⟨M344, hM344, h⟩ := bw_mlE h
                        refine rw_m hM344.symm ?_
                        refine rw_iconst (v := 1) dX10_takesE_336 (by decide) ?_
                        refine rw_istore_n dX10_takesE_337 rfl (by decide) ?_
                        refine rw_aload_n dX10_takesE_338 rfl rfl ?_
                        obtain ⟨q345, hq345, h⟩ := bw_bd h
                        refine rw_callV0 dX10_takesE_339 ln_RX10_293 mv_X10_go (sh_m w) (bw_kl (by decide)) (ct_X10_go hq345) (Nat.le_of_ble_eq_true rfl) (Nat.le_of_ble_eq_true rfl) (bw_kkv ?_)
                        refine rw_goto (tgt := 28) dX10_takesE_342 (by decide) ?_
                        exact rw_sub (rw_lc rfl (rw_lc rfl (rw_lc rfl (rw_lc rfl rw_lz)))) (ih v1 v2 (1 : Int32) q345 h)
                      · have h := bw_if c339 h
                        refine rw_iload dX10_takesE_282 rfl ?_
                        refine rw_callS1 dX10_takesE_284 ln_RX10_299 ms_X10_rank (ct_X10_rank rfl) (Nat.le_of_ble_eq_true rfl) (Nat.le_of_ble_eq_true rfl) (bw_kki ?_)
                        refine rw_iconst (v := 3) dX10_takesE_287 (by decide) ?_
                        have key : RW w 3 0 0 0 0 cX10_takesE RX10 5 (some .boolean) (bw_Z w (bw_pz (out.1) out.2)) 305 [(0, .ref (bw_ad w 93)), (1, .int v1), (2, .int v2), (4, .int (f_X10_signHere M))] [.int (if (f_X10_rank (f_X10_signHere M)) ≤ (3 : Int32) then (0 : Int32) else (if (M 115 v1.toNatClampNeg) = 0 then (0 : Int32) else (1 : Int32))), .int v1, .ref (bw_ad w 115)] M := by
                          refine rw_zast dX10_takesE_305 (sh_m_tested w) (bw_kl (by decide)) (bw_in g337) ?_
                          obtain ⟨M348, hM348, h⟩ := bw_mlE h
                          refine rw_m hM348.symm ?_
                          refine rw_aload_n dX10_takesE_306 rfl rfl ?_
                          refine rw_iload dX10_takesE_307 rfl ?_
                          refine rw_callS1 dX10_takesE_309 ln_RX10_299 ms_X10_rank (ct_X10_rank rfl) (Nat.le_of_ble_eq_true rfl) (Nat.le_of_ble_eq_true rfl) (bw_kki ?_)
                          obtain ⟨q349, hq349, h⟩ := bw_bd h
                          refine rw_callV1 dX10_takesE_312 ln_RX10_311 mv_X10_settle (sh_m w) (bw_kl (by decide)) (ct_X10_settle hq349) (Nat.le_of_ble_eq_true rfl) (Nat.le_of_ble_eq_true rfl) (bw_kkv ?_)
                          refine rw_aload_n dX10_takesE_315 rfl rfl ?_
                          refine rw_get dX10_takesE_316 fl_RX10_72 (sh_m w) (bw_kl (by decide)) rfl ?_
                          refine rw_aload_n dX10_takesE_319 rfl rfl ?_
                          refine rw_get dX10_takesE_320 fl_RX10_296 (sh_m w) (bw_kl (by decide)) rfl ?_
                          refine rw_iload dX10_takesE_323 rfl ?_
                          obtain ⟨g350, h⟩ := bw_gd h
                          refine rw_iast dX10_takesE_325 (sh_m_waits w) (bw_kl (by decide)) (bw_in g350) ?_
                          obtain ⟨M351, hM351, h⟩ := bw_mlE h
                          refine rw_m hM351.symm ?_
                          refine rw_aload_n dX10_takesE_326 rfl rfl ?_
                          refine rw_dup dX10_takesE_327 rfl ?_
                          refine rw_get dX10_takesE_328 fl_RX10_296 (sh_m w) (bw_kl (by decide)) rfl ?_
                          refine rw_iconst (v := 1) dX10_takesE_331 (by decide) ?_
                          refine rw_iadd dX10_takesE_332 ?_
                          refine rw_puti dX10_takesE_333 fl_RX10_296 fp_10_39 (sh_m w) (bw_kl (by decide)) (by decide) (fun _ => rfl) (fun _ => Nat.le_of_ble_eq_true rfl) ?_
                          obtain ⟨M352, hM352, h⟩ := bw_mlE h
                          refine rw_m hM352.symm ?_
                          refine rw_iconst (v := 1) dX10_takesE_336 (by decide) ?_
                          refine rw_istore_n dX10_takesE_337 rfl (by decide) ?_
                          refine rw_aload_n dX10_takesE_338 rfl rfl ?_
                          obtain ⟨q353, hq353, h⟩ := bw_bd h
                          refine rw_callV0 dX10_takesE_339 ln_RX10_293 mv_X10_go (sh_m w) (bw_kl (by decide)) (ct_X10_go hq353) (Nat.le_of_ble_eq_true rfl) (Nat.le_of_ble_eq_true rfl) (bw_kkv ?_)
                          refine rw_goto (tgt := 28) dX10_takesE_342 (by decide) ?_
                          exact rw_sub (rw_lc rfl (rw_lc rfl (rw_lc rfl (rw_lc rfl rw_lz)))) (ih v1 v2 (1 : Int32) q353 h)
                        refine rw_icmp_le (tgt := 304) dX10_takesE_288 (by decide) (fun c346 => ?_) (fun c346 => ?_)
                        · refine rw_iconst (v := 0) dX10_takesE_304 (by decide) ?_
                          simp only [if_pos c346] at key
                          exact rw_sub (rw_lc rfl (rw_lc rfl (rw_lc rfl (rw_lc rfl rw_lz)))) key
                        · refine rw_aload_n dX10_takesE_291 rfl rfl ?_
                          refine rw_get dX10_takesE_292 fl_RX10_75 (sh_m w) (bw_kl (by decide)) rfl ?_
                          refine rw_iload_n dX10_takesE_295 rfl rfl ?_
                          refine rw_zald dX10_takesE_296 (sh_m_tested w) (bw_kl (by decide)) (bw_in g337) ?_
                          refine rw_if_eq (tgt := 304) dX10_takesE_297 (by decide) (fun c347 => ?_) (fun c347 => ?_)
                          · refine rw_iconst (v := 0) dX10_takesE_304 (by decide) ?_
                            simp only [if_neg c346, if_pos c347] at key
                            exact rw_sub (rw_lc rfl (rw_lc rfl (rw_lc rfl (rw_lc rfl rw_lz)))) key
                          · refine rw_iconst (v := 1) dX10_takesE_300 (by decide) ?_
                            refine rw_goto (tgt := 305) dX10_takesE_301 (by decide) ?_
                            simp only [if_neg c346, if_neg c347] at key
                            exact rw_sub (rw_lc rfl (rw_lc rfl (rw_lc rfl (rw_lc rfl rw_lz)))) key
                    · have h := bw_if c338 h
                      refine rw_iconst (v := 0) dX10_takesE_266 (by decide) ?_
                      have h := Option.some.inj h
                      subst h
                      exact rw_zret dX10_takesE_267 bw_n0 ⟨rfl, rfl, bw_n0⟩
              · have h := bw_if c310 h
                refine rw_aload_n dX10_takesE_201 rfl rfl ?_
                refine rw_iconst (v := 0) dX10_takesE_202 (by decide) ?_
                obtain ⟨q354, hq354, h⟩ := bw_bd h
                refine rw_callV1 dX10_takesE_203 ln_RX10_311 mv_X10_settle (sh_m w) (bw_kl (by decide)) (ct_X10_settle hq354) (Nat.le_of_ble_eq_true rfl) (Nat.le_of_ble_eq_true rfl) (bw_kkv ?_)
                refine rw_aload_n dX10_takesE_206 rfl rfl ?_
                refine rw_dup dX10_takesE_207 rfl ?_
                refine rw_get dX10_takesE_208 fl_RX10_296 (sh_m w) (bw_kl (by decide)) rfl ?_
                refine rw_iconst (v := 1) dX10_takesE_211 (by decide) ?_
                refine rw_isub dX10_takesE_212 ?_
                refine rw_puti dX10_takesE_213 fl_RX10_296 fp_10_39 (sh_m w) (bw_kl (by decide)) (by decide) (fun _ => rfl) (fun _ => Nat.le_of_ble_eq_true rfl) ?_
                obtain ⟨M355, hM355, h⟩ := bw_mlE h
                refine rw_m hM355.symm ?_
                refine rw_dec dX10_takesE_216 rfl (by decide) ?_
                refine rw_aload_n dX10_takesE_219 rfl rfl ?_
                refine rw_bipush (v := 6) dX10_takesE_220 (by decide) ?_
                obtain ⟨q356, hq356, h⟩ := bw_bd h
                refine rw_callV1 dX10_takesE_222 ln_RX10_311 mv_X10_settle (sh_m w) (bw_kl (by decide)) (ct_X10_settle hq356) (Nat.le_of_ble_eq_true rfl) (Nat.le_of_ble_eq_true rfl) (bw_kkv ?_)
                refine rw_aload_n dX10_takesE_225 rfl rfl ?_
                obtain ⟨q357, hq357, h⟩ := bw_bd h
                refine rw_callV0 dX10_takesE_226 ln_RX10_319 mv_X10_notsOpen (sh_m w) (bw_kl (by decide)) (ct_X10_notsOpen hq357) (Nat.le_of_ble_eq_true rfl) (Nat.le_of_ble_eq_true rfl) (bw_kki ?_)
                refine rw_istore_n dX10_takesE_229 rfl (by decide) ?_
                refine rw_aload_n dX10_takesE_230 rfl rfl ?_
                obtain ⟨q358, hq358, h⟩ := bw_bd h
                refine rw_callV0 dX10_takesE_231 ln_RX10_293 mv_X10_go (sh_m w) (bw_kl (by decide)) (ct_X10_go hq358) (Nat.le_of_ble_eq_true rfl) (Nat.le_of_ble_eq_true rfl) (bw_kkv ?_)
                refine rw_goto (tgt := 28) dX10_takesE_234 (by decide) ?_
                exact rw_sub (rw_lc rfl (rw_lc rfl (rw_lc rfl (rw_lc rfl rw_lz)))) (ih (v1 - 1) q357 v3 q358 h)
        · have h := bw_if c221 h
          refine rw_aload_n dX10_takesE_43 rfl rfl ?_
          refine rw_get dX10_takesE_44 fl_RX10_278 (sh_m w) (bw_kl (by decide)) rfl ?_
          refine rw_iconst (v := 3) dX10_takesE_47 (by decide) ?_
          refine rw_icmp_ne (tgt := 97) dX10_takesE_48 (by decide) (fun c359 => ?_) (fun c359 => ?_)
          · have h := bw_if c359 h
            refine rw_aload_n dX10_takesE_97 rfl rfl ?_
            refine rw_get dX10_takesE_98 fl_RX10_278 (sh_m w) (bw_kl (by decide)) rfl ?_
            refine rw_iconst (v := 3) dX10_takesE_101 (by decide) ?_
            refine rw_icmp_ne (tgt := 158) dX10_takesE_102 (by decide) (fun c360 => ?_) (fun c360 => ?_)
            · have h := bw_if c360 h
              refine rw_aload_n dX10_takesE_158 rfl rfl ?_
              obtain ⟨q361, hq361, h⟩ := bw_bd h
              refine rw_callV0 dX10_takesE_159 ln_RX10_315 mv_X10_takesPart (sh_m w) (bw_kl (by decide)) (ct_X10_takesPart hq361) (Nat.le_of_ble_eq_true rfl) (Nat.le_of_ble_eq_true rfl) (bw_kkz (fun z362 => ?_))
              refine rw_if_eq (tgt := 170) dX10_takesE_162 (by decide) (fun c363 => ?_) (fun c363 => ?_)
              · have h := bw_it c363 h
                refine rw_iconst (v := 0) dX10_takesE_170 (by decide) ?_
                have h := Option.some.inj h
                subst h
                exact rw_zret dX10_takesE_171 bw_n0 ⟨rfl, rfl, bw_n0⟩
              · have h := bw_if c363 h
                refine rw_iconst (v := 0) dX10_takesE_165 (by decide) ?_
                refine rw_istore_n dX10_takesE_166 rfl (by decide) ?_
                refine rw_goto (tgt := 172) dX10_takesE_167 (by decide) ?_
                refine rw_aload_n dX10_takesE_172 rfl rfl ?_
                obtain ⟨q364, hq364, h⟩ := bw_bd h
                refine rw_callV0 dX10_takesE_173 ln_RX10_319 mv_X10_notsOpen (sh_m w) (bw_kl (by decide)) (ct_X10_notsOpen hq364) (Nat.le_of_ble_eq_true rfl) (Nat.le_of_ble_eq_true rfl) (bw_kki ?_)
                refine rw_istore_n dX10_takesE_176 rfl (by decide) ?_
                refine rw_goto (tgt := 28) dX10_takesE_177 (by decide) ?_
                exact rw_sub (rw_lc rfl (rw_lc rfl (rw_lc rfl (rw_lc rfl rw_lz)))) (ih v1 q364 (0 : Int32) q361.2 h)
            · have h := bw_it c360 h
              refine rw_aload_n dX10_takesE_105 rfl rfl ?_
              refine rw_get dX10_takesE_106 fl_RX10_284 (sh_m w) (bw_kl (by decide)) rfl ?_
              refine rw_bipush (v := 40) dX10_takesE_109 (by decide) ?_
              refine rw_icmp_ne (tgt := 158) dX10_takesE_111 (by decide) (fun c365 => ?_) (fun c365 => ?_)
              · have h := bw_if c365 h
                refine rw_aload_n dX10_takesE_158 rfl rfl ?_
                obtain ⟨q366, hq366, h⟩ := bw_bd h
                refine rw_callV0 dX10_takesE_159 ln_RX10_315 mv_X10_takesPart (sh_m w) (bw_kl (by decide)) (ct_X10_takesPart hq366) (Nat.le_of_ble_eq_true rfl) (Nat.le_of_ble_eq_true rfl) (bw_kkz (fun z367 => ?_))
                refine rw_if_eq (tgt := 170) dX10_takesE_162 (by decide) (fun c368 => ?_) (fun c368 => ?_)
                · have h := bw_it c368 h
                  refine rw_iconst (v := 0) dX10_takesE_170 (by decide) ?_
                  have h := Option.some.inj h
                  subst h
                  exact rw_zret dX10_takesE_171 bw_n0 ⟨rfl, rfl, bw_n0⟩
                · have h := bw_if c368 h
                  refine rw_iconst (v := 0) dX10_takesE_165 (by decide) ?_
                  refine rw_istore_n dX10_takesE_166 rfl (by decide) ?_
                  refine rw_goto (tgt := 172) dX10_takesE_167 (by decide) ?_
                  refine rw_aload_n dX10_takesE_172 rfl rfl ?_
                  obtain ⟨q369, hq369, h⟩ := bw_bd h
                  refine rw_callV0 dX10_takesE_173 ln_RX10_319 mv_X10_notsOpen (sh_m w) (bw_kl (by decide)) (ct_X10_notsOpen hq369) (Nat.le_of_ble_eq_true rfl) (Nat.le_of_ble_eq_true rfl) (bw_kki ?_)
                  refine rw_istore_n dX10_takesE_176 rfl (by decide) ?_
                  refine rw_goto (tgt := 28) dX10_takesE_177 (by decide) ?_
                  exact rw_sub (rw_lc rfl (rw_lc rfl (rw_lc rfl (rw_lc rfl rw_lz)))) (ih v1 q369 (0 : Int32) q366.2 h)
              · have h := bw_it c365 h
                refine rw_iload_n dX10_takesE_114 rfl rfl ?_
                refine rw_bipush (v := 8) dX10_takesE_115 (by decide) ?_
                refine rw_icmp_ge (tgt := 158) dX10_takesE_117 (by decide) (fun c370 => ?_) (fun c370 => ?_)
                · have h := bw_it c370 h
                  refine rw_aload_n dX10_takesE_158 rfl rfl ?_
                  obtain ⟨q371, hq371, h⟩ := bw_bd h
                  refine rw_callV0 dX10_takesE_159 ln_RX10_315 mv_X10_takesPart (sh_m w) (bw_kl (by decide)) (ct_X10_takesPart hq371) (Nat.le_of_ble_eq_true rfl) (Nat.le_of_ble_eq_true rfl) (bw_kkz (fun z372 => ?_))
                  refine rw_if_eq (tgt := 170) dX10_takesE_162 (by decide) (fun c373 => ?_) (fun c373 => ?_)
                  · have h := bw_it c373 h
                    refine rw_iconst (v := 0) dX10_takesE_170 (by decide) ?_
                    have h := Option.some.inj h
                    subst h
                    exact rw_zret dX10_takesE_171 bw_n0 ⟨rfl, rfl, bw_n0⟩
                  · have h := bw_if c373 h
                    refine rw_iconst (v := 0) dX10_takesE_165 (by decide) ?_
                    refine rw_istore_n dX10_takesE_166 rfl (by decide) ?_
                    refine rw_goto (tgt := 172) dX10_takesE_167 (by decide) ?_
                    refine rw_aload_n dX10_takesE_172 rfl rfl ?_
                    obtain ⟨q374, hq374, h⟩ := bw_bd h
                    refine rw_callV0 dX10_takesE_173 ln_RX10_319 mv_X10_notsOpen (sh_m w) (bw_kl (by decide)) (ct_X10_notsOpen hq374) (Nat.le_of_ble_eq_true rfl) (Nat.le_of_ble_eq_true rfl) (bw_kki ?_)
                    refine rw_istore_n dX10_takesE_176 rfl (by decide) ?_
                    refine rw_goto (tgt := 28) dX10_takesE_177 (by decide) ?_
                    exact rw_sub (rw_lc rfl (rw_lc rfl (rw_lc rfl (rw_lc rfl rw_lz)))) (ih v1 q374 (0 : Int32) q371.2 h)
                · have h := bw_if c370 h
                  refine rw_aload_n dX10_takesE_120 rfl rfl ?_
                  refine rw_get dX10_takesE_121 fl_RX10_72 (sh_m w) (bw_kl (by decide)) rfl ?_
                  refine rw_aload_n dX10_takesE_124 rfl rfl ?_
                  refine rw_get dX10_takesE_125 fl_RX10_296 (sh_m w) (bw_kl (by decide)) rfl ?_
                  refine rw_bipush (v := -11) dX10_takesE_128 (by decide) ?_
                  obtain ⟨g375, h⟩ := bw_gd h
                  refine rw_iast dX10_takesE_130 (sh_m_waits w) (bw_kl (by decide)) (bw_in g375) ?_
                  obtain ⟨M376, hM376, h⟩ := bw_mlE h
                  refine rw_m hM376.symm ?_
                  refine rw_aload_n dX10_takesE_131 rfl rfl ?_
                  refine rw_dup dX10_takesE_132 rfl ?_
                  refine rw_get dX10_takesE_133 fl_RX10_296 (sh_m w) (bw_kl (by decide)) rfl ?_
                  refine rw_iconst (v := 1) dX10_takesE_136 (by decide) ?_
                  refine rw_iadd dX10_takesE_137 ?_
                  refine rw_puti dX10_takesE_138 fl_RX10_296 fp_10_39 (sh_m w) (bw_kl (by decide)) (by decide) (fun _ => rfl) (fun _ => Nat.le_of_ble_eq_true rfl) ?_
                  obtain ⟨M377, hM377, h⟩ := bw_mlE h
                  refine rw_m hM377.symm ?_
                  refine rw_inc dX10_takesE_141 rfl (by decide) ?_
                  refine rw_aload_n dX10_takesE_144 rfl rfl ?_
                  refine rw_get dX10_takesE_145 fl_RX10_75 (sh_m w) (bw_kl (by decide)) rfl ?_
                  refine rw_iload_n dX10_takesE_148 rfl rfl ?_
                  refine rw_iconst (v := 0) dX10_takesE_149 (by decide) ?_
                  obtain ⟨g378, h⟩ := bw_gd h
                  refine rw_zast dX10_takesE_150 (sh_m_tested w) (bw_kl (by decide)) (bw_in g378) ?_
                  obtain ⟨M379, hM379, h⟩ := bw_mlE h
                  refine rw_m hM379.symm ?_
                  refine rw_aload_n dX10_takesE_151 rfl rfl ?_
                  obtain ⟨q380, hq380, h⟩ := bw_bd h
                  refine rw_callV0 dX10_takesE_152 ln_RX10_293 mv_X10_go (sh_m w) (bw_kl (by decide)) (ct_X10_go hq380) (Nat.le_of_ble_eq_true rfl) (Nat.le_of_ble_eq_true rfl) (bw_kkv ?_)
                  refine rw_goto (tgt := 172) dX10_takesE_155 (by decide) ?_
                  refine rw_aload_n dX10_takesE_172 rfl rfl ?_
                  obtain ⟨q381, hq381, h⟩ := bw_bd h
                  refine rw_callV0 dX10_takesE_173 ln_RX10_319 mv_X10_notsOpen (sh_m w) (bw_kl (by decide)) (ct_X10_notsOpen hq381) (Nat.le_of_ble_eq_true rfl) (Nat.le_of_ble_eq_true rfl) (bw_kki ?_)
                  refine rw_istore_n dX10_takesE_176 rfl (by decide) ?_
                  refine rw_goto (tgt := 28) dX10_takesE_177 (by decide) ?_
                  exact rw_sub (rw_lc rfl (rw_lc rfl (rw_lc rfl (rw_lc rfl rw_lz)))) (ih (v1 + 1) q381 v3 q380 h)
          · have h := bw_it c359 h
            refine rw_aload_n dX10_takesE_51 rfl rfl ?_
            refine rw_get dX10_takesE_52 fl_RX10_284 (sh_m w) (bw_kl (by decide)) rfl ?_
            refine rw_bipush (v := 33) dX10_takesE_55 (by decide) ?_
            refine rw_icmp_ne (tgt := 97) dX10_takesE_57 (by decide) (fun c382 => ?_) (fun c382 => ?_)
            · have h := bw_if c382 h
              refine rw_aload_n dX10_takesE_97 rfl rfl ?_
              refine rw_get dX10_takesE_98 fl_RX10_278 (sh_m w) (bw_kl (by decide)) rfl ?_
              refine rw_iconst (v := 3) dX10_takesE_101 (by decide) ?_
              refine rw_icmp_ne (tgt := 158) dX10_takesE_102 (by decide) (fun c383 => ?_) (fun c383 => ?_)
              · have h := bw_if c383 h
                refine rw_aload_n dX10_takesE_158 rfl rfl ?_
                obtain ⟨q384, hq384, h⟩ := bw_bd h
                refine rw_callV0 dX10_takesE_159 ln_RX10_315 mv_X10_takesPart (sh_m w) (bw_kl (by decide)) (ct_X10_takesPart hq384) (Nat.le_of_ble_eq_true rfl) (Nat.le_of_ble_eq_true rfl) (bw_kkz (fun z385 => ?_))
                refine rw_if_eq (tgt := 170) dX10_takesE_162 (by decide) (fun c386 => ?_) (fun c386 => ?_)
                · have h := bw_it c386 h
                  refine rw_iconst (v := 0) dX10_takesE_170 (by decide) ?_
                  have h := Option.some.inj h
                  subst h
                  exact rw_zret dX10_takesE_171 bw_n0 ⟨rfl, rfl, bw_n0⟩
                · have h := bw_if c386 h
                  refine rw_iconst (v := 0) dX10_takesE_165 (by decide) ?_
                  refine rw_istore_n dX10_takesE_166 rfl (by decide) ?_
                  refine rw_goto (tgt := 172) dX10_takesE_167 (by decide) ?_
                  refine rw_aload_n dX10_takesE_172 rfl rfl ?_
                  obtain ⟨q387, hq387, h⟩ := bw_bd h
                  refine rw_callV0 dX10_takesE_173 ln_RX10_319 mv_X10_notsOpen (sh_m w) (bw_kl (by decide)) (ct_X10_notsOpen hq387) (Nat.le_of_ble_eq_true rfl) (Nat.le_of_ble_eq_true rfl) (bw_kki ?_)
                  refine rw_istore_n dX10_takesE_176 rfl (by decide) ?_
                  refine rw_goto (tgt := 28) dX10_takesE_177 (by decide) ?_
                  exact rw_sub (rw_lc rfl (rw_lc rfl (rw_lc rfl (rw_lc rfl rw_lz)))) (ih v1 q387 (0 : Int32) q384.2 h)
              · have h := bw_it c383 h
                refine rw_aload_n dX10_takesE_105 rfl rfl ?_
                refine rw_get dX10_takesE_106 fl_RX10_284 (sh_m w) (bw_kl (by decide)) rfl ?_
                refine rw_bipush (v := 40) dX10_takesE_109 (by decide) ?_
                refine rw_icmp_ne (tgt := 158) dX10_takesE_111 (by decide) (fun c388 => ?_) (fun c388 => ?_)
                · have h := bw_if c388 h
                  refine rw_aload_n dX10_takesE_158 rfl rfl ?_
                  obtain ⟨q389, hq389, h⟩ := bw_bd h
                  refine rw_callV0 dX10_takesE_159 ln_RX10_315 mv_X10_takesPart (sh_m w) (bw_kl (by decide)) (ct_X10_takesPart hq389) (Nat.le_of_ble_eq_true rfl) (Nat.le_of_ble_eq_true rfl) (bw_kkz (fun z390 => ?_))
                  refine rw_if_eq (tgt := 170) dX10_takesE_162 (by decide) (fun c391 => ?_) (fun c391 => ?_)
                  · have h := bw_it c391 h
                    refine rw_iconst (v := 0) dX10_takesE_170 (by decide) ?_
                    have h := Option.some.inj h
                    subst h
                    exact rw_zret dX10_takesE_171 bw_n0 ⟨rfl, rfl, bw_n0⟩
                  · have h := bw_if c391 h
                    refine rw_iconst (v := 0) dX10_takesE_165 (by decide) ?_
                    refine rw_istore_n dX10_takesE_166 rfl (by decide) ?_
                    refine rw_goto (tgt := 172) dX10_takesE_167 (by decide) ?_
                    refine rw_aload_n dX10_takesE_172 rfl rfl ?_
                    obtain ⟨q392, hq392, h⟩ := bw_bd h
                    refine rw_callV0 dX10_takesE_173 ln_RX10_319 mv_X10_notsOpen (sh_m w) (bw_kl (by decide)) (ct_X10_notsOpen hq392) (Nat.le_of_ble_eq_true rfl) (Nat.le_of_ble_eq_true rfl) (bw_kki ?_)
                    refine rw_istore_n dX10_takesE_176 rfl (by decide) ?_
                    refine rw_goto (tgt := 28) dX10_takesE_177 (by decide) ?_
                    exact rw_sub (rw_lc rfl (rw_lc rfl (rw_lc rfl (rw_lc rfl rw_lz)))) (ih v1 q392 (0 : Int32) q389.2 h)
                · have h := bw_it c388 h
                  refine rw_iload_n dX10_takesE_114 rfl rfl ?_
                  refine rw_bipush (v := 8) dX10_takesE_115 (by decide) ?_
                  refine rw_icmp_ge (tgt := 158) dX10_takesE_117 (by decide) (fun c393 => ?_) (fun c393 => ?_)
                  · have h := bw_it c393 h
                    refine rw_aload_n dX10_takesE_158 rfl rfl ?_
                    obtain ⟨q394, hq394, h⟩ := bw_bd h
                    refine rw_callV0 dX10_takesE_159 ln_RX10_315 mv_X10_takesPart (sh_m w) (bw_kl (by decide)) (ct_X10_takesPart hq394) (Nat.le_of_ble_eq_true rfl) (Nat.le_of_ble_eq_true rfl) (bw_kkz (fun z395 => ?_))
                    refine rw_if_eq (tgt := 170) dX10_takesE_162 (by decide) (fun c396 => ?_) (fun c396 => ?_)
                    · have h := bw_it c396 h
                      refine rw_iconst (v := 0) dX10_takesE_170 (by decide) ?_
                      have h := Option.some.inj h
                      subst h
                      exact rw_zret dX10_takesE_171 bw_n0 ⟨rfl, rfl, bw_n0⟩
                    · have h := bw_if c396 h
                      refine rw_iconst (v := 0) dX10_takesE_165 (by decide) ?_
                      refine rw_istore_n dX10_takesE_166 rfl (by decide) ?_
                      refine rw_goto (tgt := 172) dX10_takesE_167 (by decide) ?_
                      refine rw_aload_n dX10_takesE_172 rfl rfl ?_
                      obtain ⟨q397, hq397, h⟩ := bw_bd h
                      refine rw_callV0 dX10_takesE_173 ln_RX10_319 mv_X10_notsOpen (sh_m w) (bw_kl (by decide)) (ct_X10_notsOpen hq397) (Nat.le_of_ble_eq_true rfl) (Nat.le_of_ble_eq_true rfl) (bw_kki ?_)
                      refine rw_istore_n dX10_takesE_176 rfl (by decide) ?_
                      refine rw_goto (tgt := 28) dX10_takesE_177 (by decide) ?_
                      exact rw_sub (rw_lc rfl (rw_lc rfl (rw_lc rfl (rw_lc rfl rw_lz)))) (ih v1 q397 (0 : Int32) q394.2 h)
                  · have h := bw_if c393 h
                    refine rw_aload_n dX10_takesE_120 rfl rfl ?_
                    refine rw_get dX10_takesE_121 fl_RX10_72 (sh_m w) (bw_kl (by decide)) rfl ?_
                    refine rw_aload_n dX10_takesE_124 rfl rfl ?_
                    refine rw_get dX10_takesE_125 fl_RX10_296 (sh_m w) (bw_kl (by decide)) rfl ?_
                    refine rw_bipush (v := -11) dX10_takesE_128 (by decide) ?_
                    obtain ⟨g398, h⟩ := bw_gd h
                    refine rw_iast dX10_takesE_130 (sh_m_waits w) (bw_kl (by decide)) (bw_in g398) ?_
                    obtain ⟨M399, hM399, h⟩ := bw_mlE h
                    refine rw_m hM399.symm ?_
                    refine rw_aload_n dX10_takesE_131 rfl rfl ?_
                    refine rw_dup dX10_takesE_132 rfl ?_
                    refine rw_get dX10_takesE_133 fl_RX10_296 (sh_m w) (bw_kl (by decide)) rfl ?_
                    refine rw_iconst (v := 1) dX10_takesE_136 (by decide) ?_
                    refine rw_iadd dX10_takesE_137 ?_
                    refine rw_puti dX10_takesE_138 fl_RX10_296 fp_10_39 (sh_m w) (bw_kl (by decide)) (by decide) (fun _ => rfl) (fun _ => Nat.le_of_ble_eq_true rfl) ?_
                    obtain ⟨M400, hM400, h⟩ := bw_mlE h
                    refine rw_m hM400.symm ?_
                    refine rw_inc dX10_takesE_141 rfl (by decide) ?_
                    refine rw_aload_n dX10_takesE_144 rfl rfl ?_
                    refine rw_get dX10_takesE_145 fl_RX10_75 (sh_m w) (bw_kl (by decide)) rfl ?_
                    refine rw_iload_n dX10_takesE_148 rfl rfl ?_
                    refine rw_iconst (v := 0) dX10_takesE_149 (by decide) ?_
                    obtain ⟨g401, h⟩ := bw_gd h
                    refine rw_zast dX10_takesE_150 (sh_m_tested w) (bw_kl (by decide)) (bw_in g401) ?_
                    obtain ⟨M402, hM402, h⟩ := bw_mlE h
                    refine rw_m hM402.symm ?_
                    refine rw_aload_n dX10_takesE_151 rfl rfl ?_
                    obtain ⟨q403, hq403, h⟩ := bw_bd h
                    refine rw_callV0 dX10_takesE_152 ln_RX10_293 mv_X10_go (sh_m w) (bw_kl (by decide)) (ct_X10_go hq403) (Nat.le_of_ble_eq_true rfl) (Nat.le_of_ble_eq_true rfl) (bw_kkv ?_)
                    refine rw_goto (tgt := 172) dX10_takesE_155 (by decide) ?_
                    refine rw_aload_n dX10_takesE_172 rfl rfl ?_
                    obtain ⟨q404, hq404, h⟩ := bw_bd h
                    refine rw_callV0 dX10_takesE_173 ln_RX10_319 mv_X10_notsOpen (sh_m w) (bw_kl (by decide)) (ct_X10_notsOpen hq404) (Nat.le_of_ble_eq_true rfl) (Nat.le_of_ble_eq_true rfl) (bw_kki ?_)
                    refine rw_istore_n dX10_takesE_176 rfl (by decide) ?_
                    refine rw_goto (tgt := 28) dX10_takesE_177 (by decide) ?_
                    exact rw_sub (rw_lc rfl (rw_lc rfl (rw_lc rfl (rw_lc rfl rw_lz)))) (ih (v1 + 1) q404 v3 q403 h)
            · have h := bw_it c382 h
              refine rw_iload_n dX10_takesE_60 rfl rfl ?_
              refine rw_bipush (v := 8) dX10_takesE_61 (by decide) ?_
              refine rw_icmp_ge (tgt := 97) dX10_takesE_63 (by decide) (fun c405 => ?_) (fun c405 => ?_)
              · have h := bw_it c405 h
                refine rw_aload_n dX10_takesE_97 rfl rfl ?_
                refine rw_get dX10_takesE_98 fl_RX10_278 (sh_m w) (bw_kl (by decide)) rfl ?_
                refine rw_iconst (v := 3) dX10_takesE_101 (by decide) ?_
                refine rw_icmp_ne (tgt := 158) dX10_takesE_102 (by decide) (fun c406 => ?_) (fun c406 => ?_)
                · have h := bw_if c406 h
                  refine rw_aload_n dX10_takesE_158 rfl rfl ?_
                  obtain ⟨q407, hq407, h⟩ := bw_bd h
                  refine rw_callV0 dX10_takesE_159 ln_RX10_315 mv_X10_takesPart (sh_m w) (bw_kl (by decide)) (ct_X10_takesPart hq407) (Nat.le_of_ble_eq_true rfl) (Nat.le_of_ble_eq_true rfl) (bw_kkz (fun z408 => ?_))
                  refine rw_if_eq (tgt := 170) dX10_takesE_162 (by decide) (fun c409 => ?_) (fun c409 => ?_)
                  · have h := bw_it c409 h
                    refine rw_iconst (v := 0) dX10_takesE_170 (by decide) ?_
                    have h := Option.some.inj h
                    subst h
                    exact rw_zret dX10_takesE_171 bw_n0 ⟨rfl, rfl, bw_n0⟩
                  · have h := bw_if c409 h
                    refine rw_iconst (v := 0) dX10_takesE_165 (by decide) ?_
                    refine rw_istore_n dX10_takesE_166 rfl (by decide) ?_
                    refine rw_goto (tgt := 172) dX10_takesE_167 (by decide) ?_
                    refine rw_aload_n dX10_takesE_172 rfl rfl ?_
                    obtain ⟨q410, hq410, h⟩ := bw_bd h
                    refine rw_callV0 dX10_takesE_173 ln_RX10_319 mv_X10_notsOpen (sh_m w) (bw_kl (by decide)) (ct_X10_notsOpen hq410) (Nat.le_of_ble_eq_true rfl) (Nat.le_of_ble_eq_true rfl) (bw_kki ?_)
                    refine rw_istore_n dX10_takesE_176 rfl (by decide) ?_
                    refine rw_goto (tgt := 28) dX10_takesE_177 (by decide) ?_
                    exact rw_sub (rw_lc rfl (rw_lc rfl (rw_lc rfl (rw_lc rfl rw_lz)))) (ih v1 q410 (0 : Int32) q407.2 h)
                · have h := bw_it c406 h
                  refine rw_aload_n dX10_takesE_105 rfl rfl ?_
                  refine rw_get dX10_takesE_106 fl_RX10_284 (sh_m w) (bw_kl (by decide)) rfl ?_
                  refine rw_bipush (v := 40) dX10_takesE_109 (by decide) ?_
                  refine rw_icmp_ne (tgt := 158) dX10_takesE_111 (by decide) (fun c411 => ?_) (fun c411 => ?_)
                  · have h := bw_if c411 h
                    refine rw_aload_n dX10_takesE_158 rfl rfl ?_
                    obtain ⟨q412, hq412, h⟩ := bw_bd h
                    refine rw_callV0 dX10_takesE_159 ln_RX10_315 mv_X10_takesPart (sh_m w) (bw_kl (by decide)) (ct_X10_takesPart hq412) (Nat.le_of_ble_eq_true rfl) (Nat.le_of_ble_eq_true rfl) (bw_kkz (fun z413 => ?_))
                    refine rw_if_eq (tgt := 170) dX10_takesE_162 (by decide) (fun c414 => ?_) (fun c414 => ?_)
                    · have h := bw_it c414 h
                      refine rw_iconst (v := 0) dX10_takesE_170 (by decide) ?_
                      have h := Option.some.inj h
                      subst h
                      exact rw_zret dX10_takesE_171 bw_n0 ⟨rfl, rfl, bw_n0⟩
                    · have h := bw_if c414 h
                      refine rw_iconst (v := 0) dX10_takesE_165 (by decide) ?_
                      refine rw_istore_n dX10_takesE_166 rfl (by decide) ?_
                      refine rw_goto (tgt := 172) dX10_takesE_167 (by decide) ?_
                      refine rw_aload_n dX10_takesE_172 rfl rfl ?_
                      obtain ⟨q415, hq415, h⟩ := bw_bd h
                      refine rw_callV0 dX10_takesE_173 ln_RX10_319 mv_X10_notsOpen (sh_m w) (bw_kl (by decide)) (ct_X10_notsOpen hq415) (Nat.le_of_ble_eq_true rfl) (Nat.le_of_ble_eq_true rfl) (bw_kki ?_)
                      refine rw_istore_n dX10_takesE_176 rfl (by decide) ?_
                      refine rw_goto (tgt := 28) dX10_takesE_177 (by decide) ?_
                      exact rw_sub (rw_lc rfl (rw_lc rfl (rw_lc rfl (rw_lc rfl rw_lz)))) (ih v1 q415 (0 : Int32) q412.2 h)
                  · have h := bw_it c411 h
                    refine rw_iload_n dX10_takesE_114 rfl rfl ?_
                    refine rw_bipush (v := 8) dX10_takesE_115 (by decide) ?_
                    refine rw_icmp_ge (tgt := 158) dX10_takesE_117 (by decide) (fun c416 => ?_) (fun c416 => ?_)
                    · have h := bw_it c416 h
                      refine rw_aload_n dX10_takesE_158 rfl rfl ?_
                      obtain ⟨q417, hq417, h⟩ := bw_bd h
                      refine rw_callV0 dX10_takesE_159 ln_RX10_315 mv_X10_takesPart (sh_m w) (bw_kl (by decide)) (ct_X10_takesPart hq417) (Nat.le_of_ble_eq_true rfl) (Nat.le_of_ble_eq_true rfl) (bw_kkz (fun z418 => ?_))
                      refine rw_if_eq (tgt := 170) dX10_takesE_162 (by decide) (fun c419 => ?_) (fun c419 => ?_)
                      · have h := bw_it c419 h
                        refine rw_iconst (v := 0) dX10_takesE_170 (by decide) ?_
                        have h := Option.some.inj h
                        subst h
                        exact rw_zret dX10_takesE_171 bw_n0 ⟨rfl, rfl, bw_n0⟩
                      · have h := bw_if c419 h
                        refine rw_iconst (v := 0) dX10_takesE_165 (by decide) ?_
                        refine rw_istore_n dX10_takesE_166 rfl (by decide) ?_
                        refine rw_goto (tgt := 172) dX10_takesE_167 (by decide) ?_
                        refine rw_aload_n dX10_takesE_172 rfl rfl ?_
                        obtain ⟨q420, hq420, h⟩ := bw_bd h
                        refine rw_callV0 dX10_takesE_173 ln_RX10_319 mv_X10_notsOpen (sh_m w) (bw_kl (by decide)) (ct_X10_notsOpen hq420) (Nat.le_of_ble_eq_true rfl) (Nat.le_of_ble_eq_true rfl) (bw_kki ?_)
                        refine rw_istore_n dX10_takesE_176 rfl (by decide) ?_
                        refine rw_goto (tgt := 28) dX10_takesE_177 (by decide) ?_
                        exact rw_sub (rw_lc rfl (rw_lc rfl (rw_lc rfl (rw_lc rfl rw_lz)))) (ih v1 q420 (0 : Int32) q417.2 h)
                    · have h := bw_if c416 h
                      refine rw_aload_n dX10_takesE_120 rfl rfl ?_
                      refine rw_get dX10_takesE_121 fl_RX10_72 (sh_m w) (bw_kl (by decide)) rfl ?_
                      refine rw_aload_n dX10_takesE_124 rfl rfl ?_
                      refine rw_get dX10_takesE_125 fl_RX10_296 (sh_m w) (bw_kl (by decide)) rfl ?_
                      refine rw_bipush (v := -11) dX10_takesE_128 (by decide) ?_
                      obtain ⟨g421, h⟩ := bw_gd h
                      refine rw_iast dX10_takesE_130 (sh_m_waits w) (bw_kl (by decide)) (bw_in g421) ?_
                      obtain ⟨M422, hM422, h⟩ := bw_mlE h
                      refine rw_m hM422.symm ?_
                      refine rw_aload_n dX10_takesE_131 rfl rfl ?_
                      refine rw_dup dX10_takesE_132 rfl ?_
                      refine rw_get dX10_takesE_133 fl_RX10_296 (sh_m w) (bw_kl (by decide)) rfl ?_
                      refine rw_iconst (v := 1) dX10_takesE_136 (by decide) ?_
                      refine rw_iadd dX10_takesE_137 ?_
                      refine rw_puti dX10_takesE_138 fl_RX10_296 fp_10_39 (sh_m w) (bw_kl (by decide)) (by decide) (fun _ => rfl) (fun _ => Nat.le_of_ble_eq_true rfl) ?_
                      obtain ⟨M423, hM423, h⟩ := bw_mlE h
                      refine rw_m hM423.symm ?_
                      refine rw_inc dX10_takesE_141 rfl (by decide) ?_
                      refine rw_aload_n dX10_takesE_144 rfl rfl ?_
                      refine rw_get dX10_takesE_145 fl_RX10_75 (sh_m w) (bw_kl (by decide)) rfl ?_
                      refine rw_iload_n dX10_takesE_148 rfl rfl ?_
                      refine rw_iconst (v := 0) dX10_takesE_149 (by decide) ?_
                      obtain ⟨g424, h⟩ := bw_gd h
                      refine rw_zast dX10_takesE_150 (sh_m_tested w) (bw_kl (by decide)) (bw_in g424) ?_
                      obtain ⟨M425, hM425, h⟩ := bw_mlE h
                      refine rw_m hM425.symm ?_
                      refine rw_aload_n dX10_takesE_151 rfl rfl ?_
                      obtain ⟨q426, hq426, h⟩ := bw_bd h
                      refine rw_callV0 dX10_takesE_152 ln_RX10_293 mv_X10_go (sh_m w) (bw_kl (by decide)) (ct_X10_go hq426) (Nat.le_of_ble_eq_true rfl) (Nat.le_of_ble_eq_true rfl) (bw_kkv ?_)
                      refine rw_goto (tgt := 172) dX10_takesE_155 (by decide) ?_
                      refine rw_aload_n dX10_takesE_172 rfl rfl ?_
                      obtain ⟨q427, hq427, h⟩ := bw_bd h
                      refine rw_callV0 dX10_takesE_173 ln_RX10_319 mv_X10_notsOpen (sh_m w) (bw_kl (by decide)) (ct_X10_notsOpen hq427) (Nat.le_of_ble_eq_true rfl) (Nat.le_of_ble_eq_true rfl) (bw_kki ?_)
                      refine rw_istore_n dX10_takesE_176 rfl (by decide) ?_
                      refine rw_goto (tgt := 28) dX10_takesE_177 (by decide) ?_
                      exact rw_sub (rw_lc rfl (rw_lc rfl (rw_lc rfl (rw_lc rfl rw_lz)))) (ih (v1 + 1) q427 v3 q426 h)
              · have h := bw_if c405 h
                refine rw_aload_n dX10_takesE_66 rfl rfl ?_
                refine rw_get dX10_takesE_67 fl_RX10_72 (sh_m w) (bw_kl (by decide)) rfl ?_
                refine rw_aload_n dX10_takesE_70 rfl rfl ?_
                refine rw_get dX10_takesE_71 fl_RX10_296 (sh_m w) (bw_kl (by decide)) rfl ?_
                refine rw_bipush (v := -10) dX10_takesE_74 (by decide) ?_
                obtain ⟨g428, h⟩ := bw_gd h
                refine rw_iast dX10_takesE_76 (sh_m_waits w) (bw_kl (by decide)) (bw_in g428) ?_
                obtain ⟨M429, hM429, h⟩ := bw_mlE h
                refine rw_m hM429.symm ?_
                refine rw_aload_n dX10_takesE_77 rfl rfl ?_
                refine rw_dup dX10_takesE_78 rfl ?_
                refine rw_get dX10_takesE_79 fl_RX10_296 (sh_m w) (bw_kl (by decide)) rfl ?_
                refine rw_iconst (v := 1) dX10_takesE_82 (by decide) ?_
                refine rw_iadd dX10_takesE_83 ?_
                refine rw_puti dX10_takesE_84 fl_RX10_296 fp_10_39 (sh_m w) (bw_kl (by decide)) (by decide) (fun _ => rfl) (fun _ => Nat.le_of_ble_eq_true rfl) ?_
                obtain ⟨M430, hM430, h⟩ := bw_mlE h
                refine rw_m hM430.symm ?_
                refine rw_inc dX10_takesE_87 rfl (by decide) ?_
                refine rw_aload_n dX10_takesE_90 rfl rfl ?_
                obtain ⟨q431, hq431, h⟩ := bw_bd h
                refine rw_callV0 dX10_takesE_91 ln_RX10_293 mv_X10_go (sh_m w) (bw_kl (by decide)) (ct_X10_go hq431) (Nat.le_of_ble_eq_true rfl) (Nat.le_of_ble_eq_true rfl) (bw_kkv ?_)
                refine rw_goto (tgt := 172) dX10_takesE_94 (by decide) ?_
                refine rw_aload_n dX10_takesE_172 rfl rfl ?_
                obtain ⟨q432, hq432, h⟩ := bw_bd h
                refine rw_callV0 dX10_takesE_173 ln_RX10_319 mv_X10_notsOpen (sh_m w) (bw_kl (by decide)) (ct_X10_notsOpen hq432) (Nat.le_of_ble_eq_true rfl) (Nat.le_of_ble_eq_true rfl) (bw_kki ?_)
                refine rw_istore_n dX10_takesE_176 rfl (by decide) ?_
                refine rw_goto (tgt := 28) dX10_takesE_177 (by decide) ?_
                exact rw_sub (rw_lc rfl (rw_lc rfl (rw_lc rfl (rw_lc rfl rw_lz)))) (ih v1 q432 v3 q431 h)
