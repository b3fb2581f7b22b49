def bw_rok (M : Mem) : Bool := bw_lwf M && bw_ib (M 0 1000) 100000 && bw_ib (M 14 2) 96 && bw_ib (M 14 3) 97
def f_X3_read (M : Mem) : Option (Int32 × Mem) :=
  bw_ml (bw_up M 14 2 (0 : Int32)) fun M1 => bw_ml (bw_up M1 14 3 (0 : Int32)) fun M2 => (f_X7_begin M2).bind fun M3 => (f_X3_keyHere M3).bind fun q => bw_ml (bw_up M3 14 4 q) fun M4 =>
  (if 0 ≤ M4 14 4 then (f_X7_advance M4).bind fun M5 => ((f_X3_rd 100).1 M5 (0 : Int32) (0 : Int32) (0 : Int32)).bind fun q6 => (if q6.1 = 0 then some ((0 : Int32), q6.2) else (if q6.2 16 2 = 0 then (if bw_rok q6.2 = true then some (q6.2 0 1000 + 1, bw_alloc q6.2) else none) else some ((0 : Int32), q6.2))) else some ((0 : Int32), M4))
def f_X9_text (M : Mem) : Option (Int32 × Mem) := (f_X3_read M).bind fun q => bw_ml (bw_up q.2 16 1 (0 : Int32)) fun M1 => (if q.1 = 0 then some ((-100 : Int32) - M1 16 3, M1) else (if M1 25 13 < (14 : Int32) then (f_X6_addText M1 25 q.1).bind fun q2 => some (q2.1, q2.2) else some ((-1000000003 : Int32), M1)))
def bw_ZR (w : WE) (out : Int32 × Mem) : Option Value → Heap → Prop := fun r H => ∃ f : Nat → Nat, (∀ j, j < 129 → f j = bw_ad w j) ∧ r = some (va_rf (bw_lr (bw_wa w f) out.1)) ∧ va_P (bw_d w) vwCl (bw_W (bw_wa w f) out.2) H ∧ va_D (bw_A w) (bw_W (bw_wa w f) out.2)
def bw_ZT (w : WE) (out : Int32 × Mem) : Option Value → Heap → Prop := fun r H => ∃ f : Nat → Nat, (∀ j, j < 129 → f j = bw_ad w j) ∧ r = some (.int out.1) ∧ va_P (bw_d w) vwCl (bw_W (bw_wa w f) out.2) H ∧ va_D (bw_A w) (bw_W (bw_wa w f) out.2)
theorem bw_ZR_n {w : WE} {M : Mem} : ∀ H, va_P (bw_d w) vwCl (bw_W w M) H → va_D (bw_A w) (bw_W w M) → bw_ZR w ((0 : Int32), M) (some (va_rf (bw_lr w 0))) H := fun H hP hD => ⟨bw_ad w, fun _ _ => rfl, rfl, hP, hD⟩
set_option maxRecDepth 20000 in
set_option maxHeartbeats 2000000 in
theorem ct_X3_read {w : WE} {M : Mem} {out : Int32 × Mem} (h : f_X3_read M = some out) : bw_M w 109 3 196 yX3_read cX3_read 1 (some (.object "BookBoards$Law")) [.ref (bw_ad w 14)] M (bw_ZR w out) := by
  refine bw_M.of (own := RX3) rfl (by decide) (by intro v hv; rw [List.mem_singleton.mp hv]; rfl) (Nat.le_of_ble_eq_true rfl) ?_
  unfold f_X3_read at h
  show RW w 109 0 0 3 196 cX3_read RX3 1 (some (.object "BookBoards$Law")) (bw_ZR w out) 0 [(0, .ref (bw_ad w 14))] [] M
  refine rw_aload_n dX3_read_0 rfl rfl ?_
  refine rw_iconst (v := 0) dX3_read_1 (by decide) ?_
  refine rw_puti dX3_read_2 fl_RX3_22 fp_3_2 (sh_reader w) (bw_kl (by decide)) (by decide) (fun _ => rfl) (fun _ => Nat.le_of_ble_eq_true rfl) ?_
  obtain ⟨M1, hM1, h⟩ := bw_mlE h
  refine rw_m hM1.symm ?_
  refine rw_aload_n dX3_read_5 rfl rfl ?_
  refine rw_iconst (v := 0) dX3_read_6 (by decide) ?_
  refine rw_puti dX3_read_7 fl_RX3_26 fp_3_3 (sh_reader w) (bw_kl (by decide)) (by decide) (fun _ => rfl) (fun _ => Nat.le_of_ble_eq_true rfl) ?_
  obtain ⟨M2, hM2, h⟩ := bw_mlE h
  refine rw_m hM2.symm ?_
  refine rw_aload_n dX3_read_10 rfl rfl ?_
  refine rw_get dX3_read_11 fl_RX3_12 (sh_reader w) (bw_kl (by decide)) rfl ?_
  obtain ⟨M3, hM3, h⟩ := bw_bd h
  refine rw_callV0 dX3_read_14 ln_RX3_29 mv_X7_begin (sh_tape w) (bw_kl (by decide)) (ct_X7_begin hM3) (Nat.le_of_ble_eq_true rfl) (Nat.le_of_ble_eq_true rfl) (bw_kkv ?_)
  refine rw_aload_n dX3_read_17 rfl rfl ?_
  refine rw_aload_n dX3_read_18 rfl rfl ?_
  obtain ⟨q, hq, h⟩ := bw_bd h
  refine rw_callV0 dX3_read_19 ln_RX3_32 mv_X3_keyHere (sh_reader w) (bw_kl (by decide)) (ct_X3_keyHere hq) (Nat.le_of_ble_eq_true rfl) (Nat.le_of_ble_eq_true rfl) (bw_kki ?_)
  refine rw_puti dX3_read_22 fl_RX3_36 fp_3_4 (sh_reader w) (bw_kl (by decide)) (by decide) (fun _ => rfl) (fun _ => Nat.le_of_ble_eq_true rfl) ?_
  obtain ⟨M4, hM4, h⟩ := bw_mlE h
  refine rw_m hM4.symm ?_
  refine rw_aload_n dX3_read_25 rfl rfl ?_
  refine rw_get dX3_read_26 fl_RX3_36 (sh_reader w) (bw_kl (by decide)) rfl ?_
  refine rw_if_ge (tgt := 34) dX3_read_29 (by decide) (fun c1 => ?_) (fun c1 => ?_)
  · have h := bw_it c1 h
    refine rw_aload_n dX3_read_34 rfl rfl ?_
    refine rw_get dX3_read_35 fl_RX3_12 (sh_reader w) (bw_kl (by decide)) rfl ?_
    obtain ⟨M5, hM5, h⟩ := bw_bd h
    refine rw_callV0 dX3_read_38 ln_RX3_39 mv_X7_advance (sh_tape w) (bw_kl (by decide)) (ct_X7_advance hM5) (Nat.le_of_ble_eq_true rfl) (Nat.le_of_ble_eq_true rfl) (bw_kkv ?_)
    refine rw_aload_n dX3_read_41 rfl rfl ?_
    refine rw_iconst (v := 0) dX3_read_42 (by decide) ?_
    refine rw_iconst (v := 0) dX3_read_43 (by decide) ?_
    refine rw_iconst (v := 0) dX3_read_44 (by decide) ?_
    obtain ⟨q6, hq6, h⟩ := bw_bd h
    refine rw_callV3 dX3_read_45 ln_RX3_42 mv_X3_reads (sh_reader w) (bw_kl (by decide)) ((ct_rd 100).1 hq6) (Nat.le_of_ble_eq_true rfl) (Nat.le_of_ble_eq_true rfl) (bw_kkz (fun _ => ?_))
    refine rw_if_eq (tgt := 61) dX3_read_48 (by decide) (fun c2 => ?_) (fun c2 => ?_)
    · have h := bw_it c2 h
      have h := Option.some.inj h
      subst h
      refine rw_nullL dX3_read_61 ?_
      refine rw_widen (cu' := 3) (su' := 196) (Nat.zero_le _) (Nat.zero_le _) (Nat.le_refl _) (Nat.le_refl _) ?_
      exact rw_aretZ dX3_read_62 (Or.inl ⟨_, rfl⟩) (bw_rfv _) bw_ZR_n
    · have h := bw_if c2 h
      refine rw_aload_n dX3_read_51 rfl rfl ?_
      refine rw_get dX3_read_52 fl_RX3_12 (sh_reader w) (bw_kl (by decide)) rfl ?_
      refine rw_get dX3_read_55 fl_RX3_46 (sh_tape w) (bw_kl (by decide)) rfl ?_
      refine rw_if_eq (tgt := 63) dX3_read_58 (by decide) (fun c3 => ?_) (fun c3 => ?_)
      · have h := bw_it c3 h
        obtain ⟨hok, h⟩ := bw_gd h
        have h := Option.some.inj h
        subst h
        generalize q6.2 = M6 at hok ⊢
        simp only [bw_rok, Bool.and_eq_true] at hok
        obtain ⟨⟨⟨hwf, hcn⟩, hn⟩, hops⟩ := hok
        refine rw_rx (fun nm => ?_)
        have hb1 := bw_lt hn
        have hb2 := bw_lt hops
        have hmx : (bw_max 1 (M6 14 3)).toNatClampNeg ≤ 96 := by
          unfold bw_max
          split
          · omega
          · decide
        refine rx_new dX3_read_63 nw_RX3_49 (by decide) (by decide) (fun q0 => ?_)
        refine rx_cs (cu' := 1) (su' := 4) rfl rfl (rx_l (l' := [(q0, .inr (1, [.int 0, .int 0, .null, .null]))]) rfl ?_)
        refine rx_dup dX3_read_66 rfl ?_
        refine rx_aload_n dX3_read_67 rfl rfl ?_
        refine rx_gw dX3_read_68 fl_RX3_36 (sh_reader w) (bw_kl (by decide)) rfl ?_
        refine rx_aload_n dX3_read_71 rfl rfl ?_
        refine rx_gw dX3_read_72 fl_RX3_26 (sh_reader w) (bw_kl (by decide)) rfl ?_
        refine rx_aload_n dX3_read_75 rfl rfl ?_
        refine rx_gw dX3_read_76 fl_RX3_18 (sh_reader w) (bw_kl (by decide)) rfl ?_
        refine rx_aload_n dX3_read_79 rfl rfl ?_
        refine rx_gw dX3_read_80 fl_RX3_22 (sh_reader w) (bw_kl (by decide)) rfl ?_
        refine rx_callS2 dX3_read_83 ln_RX3_51 ms_copyOf (cx_copyOf hn) (by decide) (by decide) (by omega) (Nat.le_of_ble_eq_true rfl) (fun r H1 hz => ?_)
        obtain ⟨q1, rfl, hP1, hD1⟩ := hz
        refine ⟨_, hP1, hD1, ?_⟩
        refine rx_cs (cu' := 2) (su' := 4 + (M6 14 2).toNatClampNeg) rfl rfl (rx_l (l' := [(q0, .inr (1, [.int 0, .int 0, .null, .null])), (q1, .inl (bw_ca w 0, (M6 14 2).toNatClampNeg, .inl (va_cpy (M6 15) (fun _ => 0) 0 0 (M6 14 2).toNatClampNeg)))]) rfl ?_)
        refine rx_callI3 dX3_read_86 ln_RX3_57 mi_X1_init (cx_X1_init (l1 := []) hops) (by decide) (by decide) (by omega) (Nat.le_of_ble_eq_true rfl) (fun r H2 hz => ?_)
        obtain ⟨rfl, q2, hP2, hD2⟩ := hz
        refine ⟨_, hP2, hD2, rfl, ?_⟩
        refine rx_widen (cu' := 3) (su' := 196) (by omega) (by omega) (Nat.le_refl _) (Nat.le_refl _) ?_
        refine rx_aret dX3_read_89 (Or.inl ⟨_, rfl⟩) (Or.inr ⟨_, rfl⟩) (fun H hP hD => ?_)
        obtain ⟨g1, g2⟩ := bw_grow hwf hcn hn (by omega) hP hD
        obtain ⟨-, e2, e3⟩ := bw_cnt hcn
        refine ⟨bw_fx w M6 q0 q1 q2, fun j hj => bw_fx_o j (bw_kl hj), ?_, g1, g2⟩
        have e4 : bw_lr (bw_wa w (bw_fx w M6 q0 q1 q2)) (M6 0 1000 + 1) = some q0 := by
          unfold bw_lr
          rw [if_neg e3, e2]
          show some (bw_fx w M6 q0 q1 q2 (bw_nn M6)) = _
          unfold bw_fx
          rw [if_pos rfl]
        rw [e4]
        rfl
      · have h := bw_if c3 h
        have h := Option.some.inj h
        subst h
        refine rw_nullL dX3_read_61 ?_
        refine rw_widen (cu' := 3) (su' := 196) (Nat.zero_le _) (Nat.zero_le _) (Nat.le_refl _) (Nat.le_refl _) ?_
        exact rw_aretZ dX3_read_62 (Or.inl ⟨_, rfl⟩) (bw_rfv _) bw_ZR_n
  · have h := bw_if c1 h
    have h := Option.some.inj h
    subst h
    refine rw_nullL dX3_read_32 ?_
    refine rw_widen (cu' := 3) (su' := 196) (Nat.zero_le _) (Nat.zero_le _) (Nat.le_refl _) (Nat.le_refl _) ?_
    exact rw_aretZ dX3_read_33 (Or.inl ⟨_, rfl⟩) (bw_rfv _) bw_ZR_n
section RWZ
variable {w : WE} {d cu su mc ms : Nat} {cc : ByteArray} {own : String} {nL : Nat} {ret : Option FieldType} {Z : Option Value → Heap → Prop} {pc : Nat} {lv : List (Nat × Value)} {st : List Value} {M : Mem}
theorem rw_callZ0 {d' mc' ms' k idx ci : Nat} {y : MethodName} {cc' : ByteArray} {nL' : Nat} {ret' : Option FieldType} {Z' : Option Value → Heap → Prop} {F : (Nat → Int32) → List Value} (hd : decode cc pc = .ok (.invokevirtual idx, 3)) (hl0 : Cond.methodLink own idx y ∈ lw_gd) (hm : bw_MV y cc' nL' ret' 0 ci) (hsh : ∀ r, bw_E w k r = .inr (ci, F r)) (hk : k < bw_nn M) (hc : bw_M w d' mc' ms' y cc' nL' ret' [.ref (bw_ad w k)] M Z') (hdd : d' + 1 ≤ d) (h1 : cu + mc' ≤ mc) (h2 : su + ms' ≤ ms) (hst : (st.map fun v => v.category).sum ≤ 8)
    (kk : ∀ (r : Option Value) (H1 : Heap), Z' r H1 → ∃ (f : Nat → Nat) (M' : Mem), va_P (bw_d w) vwCl (bw_W (bw_wa w f) M') H1 ∧ va_D (bw_A w) (bw_W (bw_wa w f) M') ∧ RW (bw_wa w f) d (cu + mc') (su + ms') mc ms cc own nL ret Z (pc + 3) lv (r.toList ++ st) M') : RW w d cu su mc ms cc own nL ret Z pc lv (.ref (bw_ad w k) :: st) M := by
  intro p l e s m args below meth c H locs ls C hu hv hP hD hS hl
  obtain ⟨m1, m2, m3, m4, m5, ⟨q, m6, m7⟩, m8⟩ := hm
  have hts := C.2.2.2.2.1
  have hrv := va_recv (q := q) C.2.2.2.2.2.2.2.1 hP m6 (q0 := k) (a := bw_ad w k) (fs := F (M k)) (by rw [bw_get hk, hsh])
  rw [m7] at hrv
  refine bw_back (w' := w) (va_runV (As := []) (rest := st) (own := own) (C := y.cls) (n := 0) (index := idx) (bytes := cc') (maxL := nL') (ret := ret') ⟨C.1, C.2.1, C.2.2.1, C.2.2.2.1, hts⟩ (hc l) ⟨callB_of 0 hts (bw_gi m1) rfl rfl rfl (hts _ m2) (hts _ hl0) m5 ⟨hdd, by show 8 + (nL' + 11) + 40 * d' ≤ 40 * d; omega⟩, hts _ m3, hts _ m4⟩ ⟨bw_blind, hrv, bw_pre C hP hD hS⟩ rfl rfl hl.1 rfl (lv_room hst) hd ⟨h1, h2⟩) hS (fun r H1 locs1 hz hS1 => ?_)
  obtain ⟨f, M1, hP1, hD1, k⟩ := kk r H1 hz
  exact k p l e s m args below meth c H1 locs1 ls C h1 h2 hP1 hD1 hS1 hl
end RWZ
set_option maxRecDepth 20000 in
set_option maxHeartbeats 2000000 in
theorem ct_X9_text {w : WE} {M : Mem} {out : Int32 × Mem} (h : f_X9_text M = some out) : bw_M w 110 3 196 yX9_text cX9_text 2 (some .int) [.ref (bw_ad w 0)] M (bw_ZT w out) := by
  refine bw_M.of (own := RX9) rfl (by decide) (by intro v hv; rw [List.mem_singleton.mp hv]; rfl) (Nat.le_of_ble_eq_true rfl) ?_
  unfold f_X9_text at h
  show RW w 110 0 0 3 196 cX9_text RX9 2 (some .int) (bw_ZT w out) 0 [(0, .ref (bw_ad w 0))] [] M
  refine rw_aload_n dX9_text_0 rfl rfl ?_
  refine rw_get dX9_text_1 fl_RX9_36 (sh_x w) (bw_kl (by decide)) rfl ?_
  obtain ⟨q, hq, h⟩ := bw_bd h
  refine rw_callZ0 dX9_text_4 ln_RX9_293 mv_X3_read (sh_reader w) (bw_kl (by decide)) (ct_X3_read hq) (Nat.le_of_ble_eq_true rfl) (by decide) (by decide) (Nat.le_of_ble_eq_true rfl) (fun r H1 hz => ?_)
  obtain ⟨f, hf, rfl, hP1, hD1⟩ := hz
  refine ⟨f, q.2, hP1, hD1, ?_⟩
  have hz : ∀ (v : Int32) (M' : Mem), out = (v, M') → ∀ H, va_P (bw_d (bw_wa w f)) vwCl (bw_W (bw_wa w f) M') H → va_D (bw_A (bw_wa w f)) (bw_W (bw_wa w f) M') → bw_ZT w out (some (.int v)) H := fun v M' e H hP hD => by
    subst e
    exact ⟨f, hf, rfl, hP, hD⟩
  rw [show bw_ad w 0 = bw_ad (bw_wa w f) 0 from (hf 0 (by decide)).symm]
  generalize bw_wa w f = w' at hz ⊢
  refine rw_astore_nQ dX9_text_7 rfl (by decide) ?_
  refine rw_aload_n dX9_text_8 rfl rfl ?_
  refine rw_get dX9_text_9 fl_RX9_44 (sh_x w') (bw_kl (by decide)) rfl ?_
  refine rw_iconst (v := 0) dX9_text_12 (by decide) ?_
  refine rw_puti dX9_text_13 fl_RX9_284 fp_7_1 (sh_tape w') (bw_kl (by decide)) (by decide) (fun _ => rfl) (fun _ => Nat.le_of_ble_eq_true rfl) ?_
  obtain ⟨M1, hM1, h⟩ := bw_mlE h
  refine rw_m hM1.symm ?_
  refine rw_aload_nQ dX9_text_16 rfl rfl ?_
  refine rw_ifnonnullL (tgt := 31) dX9_text_17 (by decide) (fun c1 => ?_) (fun c1 => ?_)
  · have h := bw_if c1 h
    refine rw_aload_n dX9_text_31 rfl rfl ?_
    refine rw_get dX9_text_32 fl_RX9_10 (sh_x w') (bw_kl (by decide)) rfl ?_
    refine rw_get dX9_text_35 fl_RX9_300 (sh_now w') (bw_kl (by decide)) rfl ?_
    refine rw_bipush (v := 14) dX9_text_38 (by decide) ?_
    refine rw_icmp_lt (tgt := 46) dX9_text_40 (by decide) (fun c2 => ?_) (fun c2 => ?_)
    · have h := bw_it c2 h
      refine rw_aload_n dX9_text_46 rfl rfl ?_
      refine rw_get dX9_text_47 fl_RX9_10 (sh_x w') (bw_kl (by decide)) rfl ?_
      refine rw_aload_nQ dX9_text_50 rfl rfl ?_
      obtain ⟨q2, hq2, h⟩ := bw_bd h
      refine rw_callV1 dX9_text_51 ln_RX9_303 mv_X6_addText (sh_now w') (bw_kl (by decide)) (ct_X6_addText (by decide) hq2) (Nat.le_of_ble_eq_true rfl) (Nat.le_of_ble_eq_true rfl) (bw_kki ?_)
      have h := Option.some.inj h
      exact rw_iretZ dX9_text_54 (hz _ _ h.symm)
    · have h := bw_if c2 h
      refine rw_ldc dX9_text_43 cn_RX9_88 ?_
      have h := Option.some.inj h
      exact rw_iretZ dX9_text_45 (hz _ _ h.symm)
  · have h := bw_it c1 h
    refine rw_bipush (v := -100) dX9_text_20 (by decide) ?_
    refine rw_aload_n dX9_text_22 rfl rfl ?_
    refine rw_get dX9_text_23 fl_RX9_44 (sh_x w') (bw_kl (by decide)) rfl ?_
    refine rw_get dX9_text_26 fl_RX9_297 (sh_tape w') (bw_kl (by decide)) rfl ?_
    refine rw_isub dX9_text_29 ?_
    have h := Option.some.inj h
    exact rw_iretZ dX9_text_30 (hz _ _ h.symm)

