section RWV
variable {w : WE} {d cu su mc ms : Nat} {cc : ByteArray} {own : String} {nL : Nat} {ret : Option FieldType} {Z : Option Value → Heap → Prop} {pc : Nat} {lv : List (Nat × Value)} {st : List Value} {M : Mem}
def bw_MT (y : MethodName) (cc' : ByteArray) (nL' : Nat) (ret' : Option FieldType) (np : Nat) : Prop := Cond.code y cc' nL' ret' ∈ lw_gd ∧ Cond.initialized y.cls ∈ lw_gd ∧ Cond.instanceMethod y ∈ lw_gd ∧ Cond.selects y.cls y y ∈ lw_gd ∧ (y.cls ≠ "java/lang/invoke/MethodHandle" ∧ y.cls ≠ "java/lang/invoke/VarHandle" ∧ (parseMethodDescriptor y.desc).map (fun d => d.parameters.length) = some np) ∧ y.cls = "java/lang/String" ∧ nL' ≤ 21
theorem rw_callT0 {d' i idx : Nat} {y : MethodName} {cc' : ByteArray} {nL' : Nat} {ret' : Option FieldType} {post : Option Value → Mem → Prop} (hd : decode cc pc = .ok (.invokevirtual idx, 3)) (hl0 : Cond.methodLink own idx y ∈ lw_gd) (hm : bw_MT y cc' nL' ret' 0) (hi : i < 6) (hc : Ct w d' y cc' nL' ret' [.ref (bw_oa w (1 + i))] M post) (hdd : d' + 1 ≤ d) (hst : (st.map fun v => v.category).sum ≤ 8)
    (kk : ∀ (r : Option Value) (M' : Mem), post r M' → RW w d cu su mc ms cc own nL ret Z (pc + 3) lv (r.toList ++ st) M') : RW w d cu su mc ms cc own nL ret Z pc lv (.ref (bw_oa w (1 + i)) :: st) M := by
  intro p l e s m args below meth c H locs ls C hu hv hP hD hS hl
  obtain ⟨m1, m2, m3, m4, m5, m6, m8⟩ := hm
  have hts := C.2.2.2.2.1
  have hrv := vk_recv (i := i) C.2.2.2.2.2.2.2.2.2.2.2.2.1 hi hS
  rw [← m6] at hrv
  refine bw_back (w' := w) (va_runV (As := []) (rest := st) (own := own) (C := y.cls) (n := 0) (index := idx) (bytes := cc') (maxL := nL') (ret := ret') ⟨C.1, C.2.1, C.2.2.1, C.2.2.2.1, hts⟩ (hc l) ⟨callB_of 0 hts (bw_gi m1) rfl rfl rfl (hts _ m2) (hts _ hl0) m5 ⟨hdd, by show 8 + (nL' + 11) + 40 * d' ≤ 40 * d; omega⟩, hts _ m3, hts _ m4⟩ ⟨bw_blind, hrv, bw_pre C hP hD hS⟩ rfl rfl hl.1 rfl (lv_room hst) hd ⟨hu, hv⟩) hS (fun r H1 locs1 hz hS1 => ?_)
  obtain ⟨M1, hp1, hP1, hD1⟩ := hz
  exact kk r M1 hp1 p l e s m args below meth c H1 locs1 ls C hu hv hP1 hD1 hS1 hl
theorem rw_callT1 {d' i idx : Nat} {y : MethodName} {cc' : ByteArray} {nL' : Nat} {ret' : Option FieldType} {post : Option Value → Mem → Prop} {x1 : Value} (hd : decode cc pc = .ok (.invokevirtual idx, 3)) (hl0 : Cond.methodLink own idx y ∈ lw_gd) (hm : bw_MT y cc' nL' ret' 1) (hi : i < 6) (hc : Ct w d' y cc' nL' ret' [.ref (bw_oa w (1 + i)), x1] M post) (hdd : d' + 1 ≤ d) (hst : (st.map fun v => v.category).sum ≤ 8)
    (kk : ∀ (r : Option Value) (M' : Mem), post r M' → RW w d cu su mc ms cc own nL ret Z (pc + 3) lv (r.toList ++ st) M') : RW w d cu su mc ms cc own nL ret Z pc lv (x1 :: .ref (bw_oa w (1 + i)) :: st) M := by
  intro p l e s m args below meth c H locs ls C hu hv hP hD hS hl
  obtain ⟨m1, m2, m3, m4, m5, m6, m8⟩ := hm
  have hts := C.2.2.2.2.1
  have hrv := vk_recv (i := i) C.2.2.2.2.2.2.2.2.2.2.2.2.1 hi hS
  rw [← m6] at hrv
  refine bw_back (w' := w) (va_runV (As := [x1]) (rest := st) (own := own) (C := y.cls) (n := 1) (index := idx) (bytes := cc') (maxL := nL') (ret := ret') ⟨C.1, C.2.1, C.2.2.1, C.2.2.2.1, hts⟩ (hc l) ⟨callB_of 1 hts (bw_gi m1) rfl rfl rfl (hts _ m2) (hts _ hl0) m5 ⟨hdd, by show 8 + (nL' + 11) + 40 * d' ≤ 40 * d; omega⟩, hts _ m3, hts _ m4⟩ ⟨bw_blind, hrv, bw_pre C hP hD hS⟩ rfl rfl hl.1 rfl (lv_room hst) hd ⟨hu, hv⟩) hS (fun r H1 locs1 hz hS1 => ?_)
  obtain ⟨M1, hp1, hP1, hD1⟩ := hz
  exact kk r M1 hp1 p l e s m args below meth c H1 locs1 ls C hu hv hP1 hD1 hS1 hl
theorem rw_callT2 {d' i idx : Nat} {y : MethodName} {cc' : ByteArray} {nL' : Nat} {ret' : Option FieldType} {post : Option Value → Mem → Prop} {x1 x2 : Value} (hd : decode cc pc = .ok (.invokevirtual idx, 3)) (hl0 : Cond.methodLink own idx y ∈ lw_gd) (hm : bw_MT y cc' nL' ret' 2) (hi : i < 6) (hc : Ct w d' y cc' nL' ret' [.ref (bw_oa w (1 + i)), x1, x2] M post) (hdd : d' + 1 ≤ d) (hst : (st.map fun v => v.category).sum ≤ 8)
    (kk : ∀ (r : Option Value) (M' : Mem), post r M' → RW w d cu su mc ms cc own nL ret Z (pc + 3) lv (r.toList ++ st) M') : RW w d cu su mc ms cc own nL ret Z pc lv (x2 :: x1 :: .ref (bw_oa w (1 + i)) :: st) M := by
  intro p l e s m args below meth c H locs ls C hu hv hP hD hS hl
  obtain ⟨m1, m2, m3, m4, m5, m6, m8⟩ := hm
  have hts := C.2.2.2.2.1
  have hrv := vk_recv (i := i) C.2.2.2.2.2.2.2.2.2.2.2.2.1 hi hS
  rw [← m6] at hrv
  refine bw_back (w' := w) (va_runV (As := [x1, x2]) (rest := st) (own := own) (C := y.cls) (n := 2) (index := idx) (bytes := cc') (maxL := nL') (ret := ret') ⟨C.1, C.2.1, C.2.2.1, C.2.2.2.1, hts⟩ (hc l) ⟨callB_of 2 hts (bw_gi m1) rfl rfl rfl (hts _ m2) (hts _ hl0) m5 ⟨hdd, by show 8 + (nL' + 11) + 40 * d' ≤ 40 * d; omega⟩, hts _ m3, hts _ m4⟩ ⟨bw_blind, hrv, bw_pre C hP hD hS⟩ rfl rfl hl.1 rfl (lv_room hst) hd ⟨hu, hv⟩) hS (fun r H1 locs1 hz hS1 => ?_)
  obtain ⟨M1, hp1, hP1, hD1⟩ := hz
  exact kk r M1 hp1 p l e s m args below meth c H1 locs1 ls C hu hv hP1 hD1 hS1 hl
theorem rw_svalue {i idx : Nat} (hd : decode cc pc = .ok (.getfield idx, 3)) (hf : Cond.fieldLink own idx "java/lang/String" "value" "[B" ∈ lw_gd) (hi : i < 6) (kk : RW w d cu su mc ms cc own nL ret Z (pc + 3) lv (.ref (bw_oa w (10 + i)) :: st) M) : RW w d cu su mc ms cc own nL ret Z pc lv (.ref (bw_oa w (1 + i)) :: st) M := by
  intro p l e s m args below meth c H locs ls C hu hv hP hD hS hl
  exact vk_getf C.1 C.2.1 (C.2.2.2.2.2.2.2.2.2.2.2.2.1.1 i hi).2.2.1 hS C.2.2.2.1 (C.2.2.2.2.1 _ hf) (fun _ h => h) hd (kk p l e s m args below meth c H locs ls C hu hv hP hD hS hl)
theorem rw_scoder {i idx : Nat} (hd : decode cc pc = .ok (.getfield idx, 3)) (hf : Cond.fieldLink own idx "java/lang/String" "coder" "B" ∈ lw_gd) (hi : i < 6) (kk : RW w d cu su mc ms cc own nL ret Z (pc + 3) lv (.int 0 :: st) M) : RW w d cu su mc ms cc own nL ret Z pc lv (.ref (bw_oa w (1 + i)) :: st) M := by
  intro p l e s m args below meth c H locs ls C hu hv hP hD hS hl
  exact vk_getf C.1 C.2.1 (C.2.2.2.2.2.2.2.2.2.2.2.2.1.1 i hi).2.1 hS C.2.2.2.1 (C.2.2.2.2.1 _ hf) (fun _ h => h) hd (kk p l e s m args below meth c H locs ls C hu hv hP hD hS hl)
theorem rw_slen {i : Nat} (hd : decode cc pc = .ok (.arraylength, 1)) (hi : i < 6) (kk : RW w d cu su mc ms cc own nL ret Z (pc + 1) lv (.int (nI (bw_slen.getD i 0)) :: st) M) : RW w d cu su mc ms cc own nL ret Z pc lv (.ref (bw_oa w (10 + i)) :: st) M := by
  intro p l e s m args below meth c H locs ls C hu hv hP hD hS hl
  exact va_tlen C.1 C.2.1 (C.2.2.2.2.2.2.2.2.2.2.2.2.1.1 i hi).2.2.2 hS rfl hd (kk p l e s m args below meth c H locs ls C hu hv hP hD hS hl)
theorem rw_sbyte {i : Nat} {j : Int32} (hd : decode cc pc = .ok (.baload, 1)) (hi : i < 6) (hin : vp_in j (bw_slen.getD i 0)) (kk : RW w d cu su mc ms cc own nL ret Z (pc + 1) lv (.int ((bw_sbyt.getD i []).getD j.toNatClampNeg 0) :: st) M) : RW w d cu su mc ms cc own nL ret Z pc lv (.int j :: .ref (bw_oa w (10 + i)) :: st) M := by
  intro p l e s m args below meth c H locs ls C hu hv hP hD hS hl
  exact va_tb C.1 C.2.1 (C.2.2.2.2.2.2.2.2.2.2.2.2.1.1 i hi).2.2.2 hS hin rfl hd (kk p l e s m args below meth c H locs ls C hu hv hP hD hS hl)
theorem rw_scompact {idx : Nat} (hd : decode cc pc = .ok (.getstatic idx, 3)) (hf : Cond.fieldLink own idx "java/lang/String" "COMPACT_STRINGS" "Z" ∈ lw_gd) (kk : RW w d cu su mc ms cc own nL ret Z (pc + 3) lv (.int 1 :: st) M) : RW w d cu su mc ms cc own nL ret Z pc lv st M := by
  intro p l e s m args below meth c H locs ls C hu hv hP hD hS hl
  exact va_gets C.1 C.2.1 C.2.2.2.2.2.2.2.2.2.2.2.1 hS C.2.2.2.1 (C.2.2.2.2.1 _ hf) (fun _ h => h) hd (kk p l e s m args below meth c H locs ls C hu hv hP hD hS hl)
theorem rw_sioobe {idx : Nat} (hd : decode cc pc = .ok (.getstatic idx, 3)) (hf : Cond.fieldLink own idx "jdk/internal/util/Preconditions" "SIOOBE_FORMATTER" "Ljava/util/function/BiFunction;" ∈ lw_gd) (kk : ∀ q : Option Nat, RW w d cu su mc ms cc own nL ret Z (pc + 3) lv (va_rf q :: st) M) : RW w d cu su mc ms cc own nL ret Z pc lv st M := by
  intro p l e s m args below meth c H locs ls C hu hv hP hD hS hl
  obtain ⟨q, hq⟩ := C.2.2.2.2.2.2.2.2.2.2.2.2.2.2.1
  exact va_gets C.1 C.2.1 hq hS C.2.2.2.1 (C.2.2.2.2.1 _ hf) (fun _ h => h) hd (kk q p l e s m args below meth c H locs ls C hu hv hP hD hS hl)
theorem rw_i2b {x : Int32} (hd : decode cc pc = .ok (.i2b, 1)) (k : RW w d cu su mc ms cc own nL ret Z (pc + 1) lv (.int x.toInt8.toInt32 :: st) M) : RW w d cu su mc ms cc own nL ret Z pc lv (.int x :: st) M :=
  fun p l e s m args below meth c H locs ls C hu hv hP hD hS hl => lv_i2b C.1 C.2.1 hd rfl (k p l e s m args below meth c H locs ls C hu hv hP hD hS hl)
theorem rw_tret {post : Option Value → Mem → Prop} {v : Int32} {ty : FieldType} (hd : decode cc pc = .ok (.ireturn, 1)) (hn : narrow ty (.int v) = .int v) (hp : post (some (.int v)) M) : RW w d mc ms mc ms cc own nL (some ty) (bw_Z w post) pc lv [.int v] M := by
  intro p l e s m args below meth c H locs ls C hu hv hP hD hS hl
  exact W.zret (v := v) C.1 C.2.1 C.2.2.2.2.2.1 hn (fun t ht hW => ⟨⟨_, rfl, M, hp, by rw [ht]; exact hP, hD⟩, hS.F ht⟩) hS.2.2 hd C.2.2.2.2.2.2.1
end RWV
theorem mv_Slen : bw_MT yJ0_length_8abf5 cJ0_length_8abf5 1 (some .int) 0 := ⟨gd_of 788 (by decide +kernel) rfl, gd_of 78 (by decide +kernel) rfl, gd_of 786 (by decide +kernel) rfl, gd_of 787 (by decide +kernel) rfl, ⟨by decide, by decide, by decide +kernel⟩, rfl, by decide⟩
theorem mt_J0_coder_7d493 : bw_MT yJ0_coder_7d493 cJ0_coder_7d493 1 (some .byte) 0 := ⟨gd_of 792 (by decide +kernel) rfl, gd_of 78 (by decide +kernel) rfl, gd_of 790 (by decide +kernel) rfl, gd_of 791 (by decide +kernel) rfl, ⟨by decide, by decide, by decide +kernel⟩, rfl, by decide⟩
theorem mv_Schar : bw_MT yJ0_charAt_5068e cJ0_charAt_5068e 2 (some .char) 1 := ⟨gd_of 798 (by decide +kernel) rfl, gd_of 78 (by decide +kernel) rfl, gd_of 796 (by decide +kernel) rfl, gd_of 797 (by decide +kernel) rfl, ⟨by decide, by decide, by decide +kernel⟩, rfl, by decide⟩
theorem mt_J0_isLatin1_aae02 : bw_MT yJ0_isLatin1_aae02 cJ0_isLatin1_aae02 1 (some .boolean) 0 := ⟨gd_of 802 (by decide +kernel) rfl, gd_of 78 (by decide +kernel) rfl, gd_of 800 (by decide +kernel) rfl, gd_of 801 (by decide +kernel) rfl, ⟨by decide, by decide, by decide +kernel⟩, rfl, by decide⟩
theorem mv_Sindex : bw_MT yJ0_indexOf_0f7a4 cJ0_indexOf_0f7a4 2 (some .int) 1 := ⟨gd_of 870 (by decide +kernel) rfl, gd_of 78 (by decide +kernel) rfl, gd_of 868 (by decide +kernel) rfl, gd_of 869 (by decide +kernel) rfl, ⟨by decide, by decide, by decide +kernel⟩, rfl, by decide⟩
theorem mt_J0_indexOf_7cf53 : bw_MT yJ0_indexOf_7cf53 cJ0_indexOf_7cf53 3 (some .int) 2 := ⟨gd_of 874 (by decide +kernel) rfl, gd_of 78 (by decide +kernel) rfl, gd_of 872 (by decide +kernel) rfl, gd_of 873 (by decide +kernel) rfl, ⟨by decide, by decide, by decide +kernel⟩, rfl, by decide⟩
theorem ms_J0_checkIndex_df160 : bw_MS yJ0_checkIndex_df160 cJ0_checkIndex_df160 2 none 2 := ⟨gd_of 808 (by decide +kernel) rfl, gd_of 78 (by decide +kernel) rfl, gd_of 807 (by decide +kernel) rfl, ⟨by decide, by decide, by decide +kernel⟩, by decide⟩
theorem ms_J1_charAt_3b067 : bw_MS yJ1_charAt_3b067 cJ1_charAt_3b067 2 (some .char) 2 := ⟨gd_of 805 (by decide +kernel) rfl, gd_of 79 (by decide +kernel) rfl, gd_of 804 (by decide +kernel) rfl, ⟨by decide, by decide, by decide +kernel⟩, by decide⟩
theorem ms_J1_canEncode_9a6ad : bw_MS yJ1_canEncode_9a6ad cJ1_canEncode_9a6ad 1 (some .boolean) 1 := ⟨gd_of 881 (by decide +kernel) rfl, gd_of 79 (by decide +kernel) rfl, gd_of 880 (by decide +kernel) rfl, ⟨by decide, by decide, by decide +kernel⟩, by decide⟩
theorem ms_J1_indexOf_4cfef : bw_MS yJ1_indexOf_4cfef cJ1_indexOf_4cfef 4 (some .int) 4 := ⟨gd_of 878 (by decide +kernel) rfl, gd_of 79 (by decide +kernel) rfl, gd_of 877 (by decide +kernel) rfl, ⟨by decide, by decide, by decide +kernel⟩, by decide⟩
theorem ms_J1_indexOfChar_4cfef : bw_MS yJ1_indexOfChar_4cfef cJ1_indexOfChar_4cfef 6 (some .int) 4 := ⟨gd_of 886 (by decide +kernel) rfl, gd_of 79 (by decide +kernel) rfl, gd_of 885 (by decide +kernel) rfl, ⟨by decide, by decide, by decide +kernel⟩, by decide⟩
theorem ms_J3_checkIndex_8e157 : bw_MS yJ3_checkIndex_8e157 cJ3_checkIndex_8e157 3 (some .int) 3 := ⟨gd_of 813 (by decide +kernel) rfl, gd_of 80 (by decide +kernel) rfl, gd_of 812 (by decide +kernel) rfl, ⟨by decide, by decide, by decide +kernel⟩, by decide⟩
theorem ln_RX7_39 : Cond.methodLink RX7 39 yJ0_length_8abf5 ∈ lw_gd := gd_of 785 (by decide +kernel) rfl
theorem ln_RX7_44 : Cond.methodLink RX7 44 yJ0_charAt_5068e ∈ lw_gd := gd_of 795 (by decide +kernel) rfl
theorem ln_RX7_48 : Cond.methodLink RX7 48 yJ0_indexOf_0f7a4 ∈ lw_gd := gd_of 867 (by decide +kernel) rfl
theorem ln_RJ0_335 : Cond.methodLink RJ0 335 yJ0_coder_7d493 ∈ lw_gd := gd_of 789 (by decide +kernel) rfl
theorem ln_RJ0_492 : Cond.methodLink RJ0 492 yJ0_isLatin1_aae02 ∈ lw_gd := gd_of 799 (by decide +kernel) rfl
theorem ln_RJ0_495 : Cond.methodLink RJ0 495 yJ1_charAt_3b067 ∈ lw_gd := gd_of 803 (by decide +kernel) rfl
theorem ln_RJ0_498 : Cond.methodLink RJ0 498 yJ2_charAt_3b067 ∈ lw_gd := gd_of 814 (by decide +kernel) rfl
theorem ln_RJ0_505 : Cond.methodLink RJ0 505 yJ0_length_8abf5 ∈ lw_gd := gd_of 875 (by decide +kernel) rfl
theorem ln_RJ0_633 : Cond.methodLink RJ0 633 yJ0_indexOf_7cf53 ∈ lw_gd := gd_of 871 (by decide +kernel) rfl
theorem ln_RJ0_637 : Cond.methodLink RJ0 637 yJ1_indexOf_4cfef ∈ lw_gd := gd_of 876 (by decide +kernel) rfl
theorem ln_RJ0_640 : Cond.methodLink RJ0 640 yJ2_indexOf_4cfef ∈ lw_gd := gd_of 887 (by decide +kernel) rfl
theorem ln_RJ0_1059 : Cond.methodLink RJ0 1059 yJ3_checkIndex_8e157 ∈ lw_gd := gd_of 811 (by decide +kernel) rfl
theorem ln_RJ0_1062 : Cond.methodLink RJ0 1062 yJ3_checkFromToIndex_8c36e ∈ lw_gd := gd_of 902 (by decide +kernel) rfl
theorem ln_RJ1_9 : Cond.methodLink RJ1 9 yJ0_checkIndex_df160 ∈ lw_gd := gd_of 806 (by decide +kernel) rfl
theorem ln_RJ1_38 : Cond.methodLink RJ1 38 Lib.Math.min.name ∈ lw_gd := gd_of 883 (by decide +kernel) rfl
theorem ln_RJ1_88 : Cond.methodLink RJ1 88 yJ1_canEncode_9a6ad ∈ lw_gd := gd_of 879 (by decide +kernel) rfl
theorem ln_RJ1_92 : Cond.methodLink RJ1 92 Lib.Math.max.name ∈ lw_gd := gd_of 882 (by decide +kernel) rfl
theorem ln_RJ1_95 : Cond.methodLink RJ1 95 yJ1_indexOfChar_4cfef ∈ lw_gd := gd_of 884 (by decide +kernel) rfl
theorem fs_J0_9 : Cond.fieldLink RJ0 9 "java/lang/String" "value" "[B" ∈ lw_gd := gd_of 1707 (by decide +kernel) rfl
theorem fs_J0_15 : Cond.fieldLink RJ0 15 "java/lang/String" "coder" "B" ∈ lw_gd := gd_of 1708 (by decide +kernel) rfl
theorem fs_J0_38 : Cond.fieldLink RJ0 38 "java/lang/String" "COMPACT_STRINGS" "Z" ∈ lw_gd := gd_of 793 (by decide +kernel) rfl
theorem fs_J0_1053 : Cond.fieldLink RJ0 1053 "jdk/internal/util/Preconditions" "SIOOBE_FORMATTER" "Ljava/util/function/BiFunction;" ∈ lw_gd := gd_of 809 (by decide +kernel) rfl
theorem bw_c_s {w : WE} {v : Value} {i : Nat} (hv : v ∈ [Value.ref (bw_oa w (1 + i))]) : v.category = 1 := by rw [List.mem_singleton.mp hv]; rfl
theorem ct_coder {w : WE} {M : Mem} {i : Nat} (hi : i < 6) : Ct w 0 yJ0_coder_7d493 cJ0_coder_7d493 1 (some .byte) [.ref (bw_oa w (1 + i))] M (bw_pi 0 M) := by
  refine Ct.of (own := RJ0) rfl (by decide) (fun v hv => bw_c_s hv) (Nat.le_of_ble_eq_true rfl) ?_
  refine rw_scompact dJ0_coder_7d493_0 fs_J0_38 ?_
  refine rw_if_eq (tgt := 13) dJ0_coder_7d493_3 (by decide) (fun c => absurd c (by decide)) (fun _ => ?_)
  refine rw_aload_n dJ0_coder_7d493_6 rfl rfl ?_
  refine rw_scoder dJ0_coder_7d493_7 fs_J0_15 hi ?_
  refine rw_goto (tgt := 14) dJ0_coder_7d493_10 (by decide) ?_
  exact rw_tret dJ0_coder_7d493_14 (by decide) ⟨rfl, rfl⟩
theorem ct_latin1 {w : WE} {M : Mem} {i : Nat} (hi : i < 6) : Ct w 0 yJ0_isLatin1_aae02 cJ0_isLatin1_aae02 1 (some .boolean) [.ref (bw_oa w (1 + i))] M (bw_pi 1 M) := by
  refine Ct.of (own := RJ0) rfl (by decide) (fun v hv => bw_c_s hv) (Nat.le_of_ble_eq_true rfl) ?_
  refine rw_scompact dJ0_isLatin1_aae02_0 fs_J0_38 ?_
  refine rw_if_eq (tgt := 17) dJ0_isLatin1_aae02_3 (by decide) (fun c => absurd c (by decide)) (fun _ => ?_)
  refine rw_aload_n dJ0_isLatin1_aae02_6 rfl rfl ?_
  refine rw_scoder dJ0_isLatin1_aae02_7 fs_J0_15 hi ?_
  refine rw_if_ne (tgt := 17) dJ0_isLatin1_aae02_10 (by decide) (fun c => absurd rfl c) (fun _ => ?_)
  refine rw_iconst (v := 1) dJ0_isLatin1_aae02_13 (by decide) ?_
  refine rw_goto (tgt := 18) dJ0_isLatin1_aae02_14 (by decide) ?_
  exact rw_tret dJ0_isLatin1_aae02_18 (by decide) ⟨rfl, rfl⟩
theorem ct_Slen {w : WE} {M : Mem} {i : Nat} (hi : i < 6) {out : Int32} (h : f_Slen i = out) : Ct w 2 yJ0_length_8abf5 cJ0_length_8abf5 1 (some .int) [.ref (bw_oa w (1 + i))] M (bw_pi out M) := by
  subst h
  refine Ct.of (own := RJ0) rfl (by decide) (fun v hv => bw_c_s hv) (Nat.le_of_ble_eq_true rfl) ?_
  refine rw_aload_n dJ0_length_8abf5_0 rfl rfl ?_
  refine rw_svalue dJ0_length_8abf5_1 fs_J0_9 hi ?_
  refine rw_slen dJ0_length_8abf5_4 hi ?_
  refine rw_aload_n dJ0_length_8abf5_5 rfl rfl ?_
  refine rw_callT0 dJ0_length_8abf5_6 ln_RJ0_335 mt_J0_coder_7d493 hi (ct_coder hi) (Nat.le_of_ble_eq_true rfl) (Nat.le_of_ble_eq_true rfl) (bw_kki ?_)
  refine rw_ishr dJ0_length_8abf5_9 ?_
  refine rw_ti (y := f_Slen i) ?_ ?_
  · unfold f_Slen
    exact (sb_shr0 _).symm
  · exact rw_iret dJ0_length_8abf5_10 ⟨rfl, rfl⟩
theorem bw_c2 {a b v : Value} (ha : a.category = 1) (hb : b.category = 1) (hv : v ∈ [a, b]) : v.category = 1 := by
  rcases List.mem_cons.mp hv with rfl | hv
  · exact ha
  · rw [List.mem_singleton.mp hv]; exact hb
theorem bw_c3 {a b c v : Value} (ha : a.category = 1) (hb : b.category = 1) (hc : c.category = 1) (hv : v ∈ [a, b, c]) : v.category = 1 := by
  rcases List.mem_cons.mp hv with rfl | hv
  · exact ha
  · exact bw_c2 hb hc hv
theorem bw_c4 {a b c d v : Value} (ha : a.category = 1) (hb : b.category = 1) (hc : c.category = 1) (hd : d.category = 1) (hv : v ∈ [a, b, c, d]) : v.category = 1 := by
  rcases List.mem_cons.mp hv with rfl | hv
  · exact ha
  · exact bw_c3 hb hc hd hv
theorem ct_pcheck {w : WE} {M : Mem} {i n : Int32} {q : Option Nat} (h0 : ¬ i < 0) (hn : i < n) : Ct w 0 yJ3_checkIndex_8e157 cJ3_checkIndex_8e157 3 (some .int) [.int i, .int n, va_rf q] M (bw_pi i M) := by
  refine Ct.of (own := RJ3) rfl (by decide) (fun v hv => bw_c3 rfl rfl (bw_cat_rf q) hv) (Nat.le_of_ble_eq_true rfl) ?_
  refine rw_iload_n dJ3_checkIndex_8e157_0 rfl rfl ?_
  refine rw_if_lt (tgt := 9) dJ3_checkIndex_8e157_1 (by decide) (fun c => absurd c h0) (fun _ => ?_)
  refine rw_iload_n dJ3_checkIndex_8e157_4 rfl rfl ?_
  refine rw_iload_n dJ3_checkIndex_8e157_5 rfl rfl ?_
  refine rw_icmp_lt (tgt := 16) dJ3_checkIndex_8e157_6 (by decide) (fun _ => ?_) (fun c => absurd hn c)
  refine rw_iload_n dJ3_checkIndex_8e157_16 rfl rfl ?_
  exact rw_iret dJ3_checkIndex_8e157_17 ⟨rfl, rfl⟩
theorem ct_scheck {w : WE} {M : Mem} {i n : Int32} (h0 : ¬ i < 0) (hn : i < n) : Ct w 1 yJ0_checkIndex_df160 cJ0_checkIndex_df160 2 none [.int i, .int n] M (bw_pv M) := by
  refine Ct.of (own := RJ0) rfl (by decide) (fun v hv => bw_c2 rfl rfl hv) (Nat.le_of_ble_eq_true rfl) ?_
  refine rw_iload_n dJ0_checkIndex_df160_0 rfl rfl ?_
  refine rw_iload_n dJ0_checkIndex_df160_1 rfl rfl ?_
  refine rw_sioobe dJ0_checkIndex_df160_2 fs_J0_1053 (fun q => ?_)
  refine rw_callS3 dJ0_checkIndex_df160_5 ln_RJ0_1059 ms_J3_checkIndex_8e157 (ct_pcheck h0 hn) (Nat.le_of_ble_eq_true rfl) (Nat.le_of_ble_eq_true rfl) (bw_kki ?_)
  refine rw_pop dJ0_checkIndex_df160_8 rfl ?_
  exact rw_vret dJ0_checkIndex_df160_9 ⟨rfl, rfl⟩
theorem bw_sb_ok : ∀ i, i < 6 → ∀ j, j < bw_slen.getD i 0 → (((((bw_sbyt.getD i []).getD j 0 &&& 255).toUInt32 % 65536).toInt32 = (bw_sbyt.getD i []).getD j 0) ∧ narrow .char (.int ((bw_sbyt.getD i []).getD j 0)) = .int ((bw_sbyt.getD i []).getD j 0) ∧ 97 ≤ (bw_sbyt.getD i []).getD j 0 ∧ (bw_sbyt.getD i []).getD j 0 ≤ 122) := by decide +kernel
theorem bw_slen_ok : ∀ i, i < 6 → (bw_sbyt.getD i []).length = bw_slen.getD i 0 ∧ bw_slen.getD i 0 ≤ 4 := by decide +kernel
theorem ct_l1char {w : WE} {M : Mem} {i : Nat} {j : Int32} (hi : i < 6) (hj : bw_ib j (bw_slen.getD i 0) = true) : Ct w 2 yJ1_charAt_3b067 cJ1_charAt_3b067 2 (some .char) [.ref (bw_oa w (10 + i)), .int j] M (bw_pi ((bw_sbyt.getD i []).getD j.toNatClampNeg 0) M) := by
  have hl := (bw_slen_ok i hi).2
  have hk := bw_lt hj
  have h0 : ¬ j < 0 := by
    simp only [bw_ib, Bool.and_eq_true, decide_eq_true_eq] at hj
    exact bw_ge0 hj.1
  obtain ⟨k, hk2, ek⟩ := nI_of h0
  have hkl : k < bw_slen.getD i 0 := by rw [ek, nI_clamp hk2] at hk; exact hk
  have hn : j < nI (bw_slen.getD i 0) := by rw [ek]; exact nI_lt hkl (by omega)
  obtain ⟨e1, e2, -, -⟩ := bw_sb_ok i hi _ hk
  refine Ct.of (own := RJ1) rfl (by decide) (fun v hv => bw_c2 rfl rfl hv) (Nat.le_of_ble_eq_true rfl) ?_
  refine rw_iload_n dJ1_charAt_3b067_0 rfl rfl ?_
  refine rw_aload_n dJ1_charAt_3b067_1 rfl rfl ?_
  refine rw_slen dJ1_charAt_3b067_2 hi ?_
  refine rw_callS2 dJ1_charAt_3b067_3 ln_RJ1_9 ms_J0_checkIndex_df160 (ct_scheck h0 hn) (Nat.le_of_ble_eq_true rfl) (Nat.le_of_ble_eq_true rfl) (bw_kkv ?_)
  refine rw_aload_n dJ1_charAt_3b067_6 rfl rfl ?_
  refine rw_iload_n dJ1_charAt_3b067_7 rfl rfl ?_
  refine rw_sbyte dJ1_charAt_3b067_8 hi (bw_in hj) ?_
  refine rw_sipush (v := 255) dJ1_charAt_3b067_9 (by decide) ?_
  refine rw_iand dJ1_charAt_3b067_12 ?_
  refine rw_i2c dJ1_charAt_3b067_13 ?_
  refine rw_ti e1.symm ?_
  exact rw_tret dJ1_charAt_3b067_14 e2 ⟨rfl, rfl⟩
theorem ct_Schar {w : WE} {M : Mem} {i : Nat} {j : Int32} (hi : i < 6) {out : Int32} (h : f_Schar i j = some out) : Ct w 4 yJ0_charAt_5068e cJ0_charAt_5068e 2 (some .char) [.ref (bw_oa w (1 + i)), .int j] M (bw_pi out M) := by
  unfold f_Schar at h
  obtain ⟨hj, h⟩ := bw_gd h
  have h := Option.some.inj h
  subst h
  obtain ⟨-, e2, -, -⟩ := bw_sb_ok i hi _ (bw_lt hj)
  refine Ct.of (own := RJ0) rfl (by decide) (fun v hv => bw_c2 rfl rfl hv) (Nat.le_of_ble_eq_true rfl) ?_
  refine rw_aload_n dJ0_charAt_5068e_0 rfl rfl ?_
  refine rw_callT0 dJ0_charAt_5068e_1 ln_RJ0_492 mt_J0_isLatin1_aae02 hi (ct_latin1 hi) (Nat.le_of_ble_eq_true rfl) (Nat.le_of_ble_eq_true rfl) (bw_kki ?_)
  refine rw_if_eq (tgt := 16) dJ0_charAt_5068e_4 (by decide) (fun c => absurd c (by decide)) (fun _ => ?_)
  refine rw_aload_n dJ0_charAt_5068e_7 rfl rfl ?_
  refine rw_svalue dJ0_charAt_5068e_8 fs_J0_9 hi ?_
  refine rw_iload_n dJ0_charAt_5068e_11 rfl rfl ?_
  refine rw_callS2 dJ0_charAt_5068e_12 ln_RJ0_495 ms_J1_charAt_3b067 (ct_l1char hi hj) (Nat.le_of_ble_eq_true rfl) (Nat.le_of_ble_eq_true rfl) (bw_kki ?_)
  exact rw_tret dJ0_charAt_5068e_15 e2 ⟨rfl, rfl⟩
theorem ct_canEnc {w : WE} {M : Mem} {c : Int32} : Ct w 0 yJ1_canEncode_9a6ad cJ1_canEncode_9a6ad 1 (some .boolean) [.int c] M (bw_pi (if c < 0 then 0 else if 255 < c then 0 else 1) M) := by
  refine Ct.of (own := RJ1) rfl (by decide) (by intro v hv; rw [List.mem_singleton.mp hv]; rfl) (Nat.le_of_ble_eq_true rfl) ?_
  refine rw_iload_n dJ1_canEncode_9a6ad_0 rfl rfl ?_
  refine rw_if_lt (tgt := 15) dJ1_canEncode_9a6ad_1 (by decide) (fun c1 => ?_) (fun c1 => ?_)
  · refine rw_iconst (v := 0) dJ1_canEncode_9a6ad_15 (by decide) ?_
    exact rw_tret dJ1_canEncode_9a6ad_16 (by decide) ⟨by rw [if_pos c1], rfl⟩
  · refine rw_iload_n dJ1_canEncode_9a6ad_4 rfl rfl ?_
    refine rw_sipush (v := 255) dJ1_canEncode_9a6ad_5 (by decide) ?_
    refine rw_icmp_gt (tgt := 15) dJ1_canEncode_9a6ad_8 (by decide) (fun c2 => ?_) (fun c2 => ?_)
    · refine rw_iconst (v := 0) dJ1_canEncode_9a6ad_15 (by decide) ?_
      exact rw_tret dJ1_canEncode_9a6ad_16 (by decide) ⟨by rw [if_neg c1, if_pos c2], rfl⟩
    · refine rw_iconst (v := 1) dJ1_canEncode_9a6ad_11 (by decide) ?_
      refine rw_goto (tgt := 16) dJ1_canEncode_9a6ad_12 (by decide) ?_
      exact rw_tret dJ1_canEncode_9a6ad_16 (by decide) ⟨by rw [if_neg c1, if_neg c2], rfl⟩
/-- a byte of a constant against a char -/
theorem bw_b8 : ∀ n, n < 256 → ∀ b, 97 ≤ b → b ≤ 122 → (nI b = (nI n).toInt8.toInt32 ↔ nI b = nI n) := by
  intro n hn b hb1 hb2
  have h8 : (nI n).toInt8.toInt32.toInt = if n < 128 then (n : Int) else (n : Int) - 256 := by
    revert n
    decide +kernel
  have hbI : (nI b).toInt = (b : Int) := nI_toInt (by omega)
  have hnI : (nI n).toInt = (n : Int) := nI_toInt (by omega)
  constructor
  · intro e
    have e2 := congrArg Int32.toInt e
    rw [hbI, h8] at e2
    by_cases q : n < 128
    · rw [if_pos q] at e2
      have : b = n := by omega
      rw [this]
    · rw [if_neg q] at e2
      omega
  · intro e
    have e2 := congrArg Int32.toInt e
    rw [hbI, hnI] at e2
    refine Int32.toInt_inj.mp ?_
    rw [hbI, h8, if_pos (by omega)]
    exact e2
theorem bw_six_drop {i k : Nat} {l : List Int32} {b : Int32} (e : (bw_sbyt.getD i []).drop k = b :: l) (hi : i < 6) : k < bw_slen.getD i 0 ∧ (bw_sbyt.getD i []).getD k 0 = b ∧ (bw_sbyt.getD i []).drop (k + 1) = l := by
  obtain ⟨h1, h2, h3, -⟩ := sc_dropC e
  exact ⟨by rw [← (bw_slen_ok i hi).1]; exact h1, h2, h3⟩
theorem th_l1ixc {w : WE} {M : Mem} {i n : Nat} (hi : i < 6) (hn : n < 256) : ∀ (l : List Int32) (k : Nat), (bw_sbyt.getD i []).drop k = l → k ≤ bw_slen.getD i 0 → RW w 0 0 0 0 0 cJ1_indexOfChar_4cfef RJ1 6 (some .int) (bw_Z w (bw_pi (f_SixF (nI n) l k) M)) 7 [(0, .ref (bw_oa w (10 + i))), (3, .int (nI (bw_slen.getD i 0))), (4, .int (nI n).toInt8.toInt32), (5, .int (nI k))] [] M := by
  intro l
  have hl4 := (bw_slen_ok i hi).2
  induction l with
  | nil =>
    intro k e hk
    have q : (bw_sbyt.getD i []).length ≤ k := List.drop_eq_nil_iff.mp e
    rw [(bw_slen_ok i hi).1] at q
    refine rw_iload dJ1_indexOfChar_4cfef_7 rfl ?_
    refine rw_iload_n dJ1_indexOfChar_4cfef_9 rfl rfl ?_
    refine rw_icmp_ge (tgt := 31) dJ1_indexOfChar_4cfef_10 (by decide) (fun _ => ?_) (fun c => absurd (nI_le q (by omega)) c)
    refine rw_iconst (v := -1) dJ1_indexOfChar_4cfef_31 (by decide) ?_
    exact rw_iret dJ1_indexOfChar_4cfef_32 ⟨rfl, rfl⟩
  | cons b l ih =>
    intro k e hk
    obtain ⟨h1, h2, h3⟩ := bw_six_drop e hi
    refine rw_iload dJ1_indexOfChar_4cfef_7 rfl ?_
    refine rw_iload_n dJ1_indexOfChar_4cfef_9 rfl rfl ?_
    refine rw_icmp_ge (tgt := 31) dJ1_indexOfChar_4cfef_10 (by decide) (fun c => absurd c (nI_ge h1 (by omega))) (fun _ => ?_)
    refine rw_aload_n dJ1_indexOfChar_4cfef_13 rfl rfl ?_
    refine rw_iload dJ1_indexOfChar_4cfef_14 rfl ?_
    refine rw_sbyte dJ1_indexOfChar_4cfef_16 hi (vp_in_nI h1 (by omega)) ?_
    refine rw_ti (y := b) (by rw [nI_clamp (by omega), h2]) ?_
    refine rw_iload dJ1_indexOfChar_4cfef_17 rfl ?_
    obtain ⟨-, -, r1, r2⟩ := bw_sb_ok i hi k h1
    rw [h2] at r1 r2
    obtain ⟨bn, hbn, rfl⟩ := nI_of (x := b) (by
      intro q
      rw [Int32.lt_iff_toInt_lt] at q
      rw [Int32.le_iff_toInt_le] at r1
      have e97 : (97 : Int32).toInt = 97 := by decide
      have e0 : (0 : Int32).toInt = 0 := by decide
      omega)
    have hb1 : 97 ≤ bn := (nI_leI (a := 97) (b := bn) (by omega) hbn).mp r1
    have hb2 : bn ≤ 122 := (nI_leI (a := bn) (b := 122) hbn (by omega)).mp r2
    have hiff := bw_b8 n hn bn hb1 hb2
    refine rw_icmp_ne (tgt := 25) dJ1_indexOfChar_4cfef_19 (by decide) (fun c => ?_) (fun c => ?_)
    · have c' : ¬ nI bn = nI n := fun q => c (hiff.mpr q)
      rw [f_SixF, if_neg c']
      refine rw_inc dJ1_indexOfChar_4cfef_25 rfl (by decide) ?_
      refine rw_goto (tgt := 7) dJ1_indexOfChar_4cfef_28 (by decide) ?_
      rw [nI_1]
      exact rw_sub (rw_lc rfl (rw_lc rfl (rw_lc rfl (rw_lc rfl rw_lz)))) (ih (k + 1) h3 (by omega))
    · have c' : nI bn = nI n := hiff.mp c
      rw [f_SixF, if_pos c']
      refine rw_iload dJ1_indexOfChar_4cfef_22 rfl ?_
      exact rw_iret dJ1_indexOfChar_4cfef_24 ⟨rfl, rfl⟩
theorem ct_l1ixc {w : WE} {M : Mem} {i n : Nat} (hi : i < 6) (hn : n < 256) : Ct w 0 yJ1_indexOfChar_4cfef cJ1_indexOfChar_4cfef 6 (some .int) [.ref (bw_oa w (10 + i)), .int (nI n), .int 0, .int (nI (bw_slen.getD i 0))] M (bw_pi (f_Sindex i (nI n)) M) := by
  refine Ct.of (own := RJ1) rfl (by decide) (fun v hv => bw_c4 rfl rfl rfl rfl hv) (Nat.le_of_ble_eq_true rfl) ?_
  refine rw_iload_n dJ1_indexOfChar_4cfef_0 rfl rfl ?_
  refine rw_i2b dJ1_indexOfChar_4cfef_1 ?_
  refine rw_istore dJ1_indexOfChar_4cfef_2 (by decide) ?_
  refine rw_iload_n dJ1_indexOfChar_4cfef_4 rfl rfl ?_
  refine rw_istore dJ1_indexOfChar_4cfef_5 (by decide) ?_
  exact rw_sub (rw_lc rfl (rw_lc rfl (rw_lc rfl (rw_lc rfl rw_lz)))) (th_l1ixc hi hn _ 0 rfl (Nat.zero_le _))
theorem f_SixF_out {c : Int32} : ∀ (l : List Int32) (k : Nat), (∀ b ∈ l, ¬ b = c) → f_SixF c l k = -1
  | [], _, _ => rfl
  | b :: l, k, h => by
    rw [f_SixF, if_neg (h b List.mem_cons_self)]
    exact f_SixF_out l (k + 1) (fun x hx => h x (List.mem_cons_of_mem _ hx))
theorem bw_sb_mem : ∀ i, i < 6 → ∀ b ∈ bw_sbyt.getD i [], 97 ≤ b ∧ b ≤ 122 := by decide +kernel
theorem ct_l1ix {w : WE} {M : Mem} {i : Nat} {c : Int32} (hi : i < 6) : Ct w 1 yJ1_indexOf_4cfef cJ1_indexOf_4cfef 4 (some .int) [.ref (bw_oa w (10 + i)), .int c, .int 0, .int (nI (bw_slen.getD i 0))] M (bw_pi (f_Sindex i c) M) := by
  have hl4 := (bw_slen_ok i hi).2
  have hl1 : 1 ≤ bw_slen.getD i 0 := by
    revert i
    decide +kernel
  have out : (c < 0 ∨ 255 < c) → f_Sindex i c = -1 := by
    intro q
    refine f_SixF_out _ _ (fun b hb e => ?_)
    obtain ⟨r1, r2⟩ := bw_sb_mem i hi b hb
    subst e
    rw [Int32.le_iff_toInt_le] at r1 r2
    have e97 : (97 : Int32).toInt = 97 := by decide
    have e122 : (122 : Int32).toInt = 122 := by decide
    have e0 : (0 : Int32).toInt = 0 := by decide
    have e255 : (255 : Int32).toInt = 255 := by decide
    rcases q with q | q <;> rw [Int32.lt_iff_toInt_lt] at q <;> omega
  refine Ct.of (own := RJ1) rfl (by decide) (fun v hv => bw_c4 rfl rfl rfl rfl hv) (Nat.le_of_ble_eq_true rfl) ?_
  refine rw_iload_n dJ1_indexOf_4cfef_0 rfl rfl ?_
  refine rw_callS1 dJ1_indexOf_4cfef_1 ln_RJ1_88 ms_J1_canEncode_9a6ad ct_canEnc (Nat.le_of_ble_eq_true rfl) (Nat.le_of_ble_eq_true rfl) (bw_kki ?_)
  by_cases c1 : c < 0
  · rw [if_pos c1]
    refine rw_if_ne (tgt := 9) dJ1_indexOf_4cfef_4 (by decide) (fun q => absurd rfl q) (fun _ => ?_)
    refine rw_iconst (v := -1) dJ1_indexOf_4cfef_7 (by decide) ?_
    exact rw_iret dJ1_indexOf_4cfef_8 ⟨by rw [out (Or.inl c1)], rfl⟩
  · by_cases c2 : 255 < c
    · rw [if_neg c1, if_pos c2]
      refine rw_if_ne (tgt := 9) dJ1_indexOf_4cfef_4 (by decide) (fun q => absurd rfl q) (fun _ => ?_)
      refine rw_iconst (v := -1) dJ1_indexOf_4cfef_7 (by decide) ?_
      exact rw_iret dJ1_indexOf_4cfef_8 ⟨by rw [out (Or.inr c2)], rfl⟩
    · rw [if_neg c1, if_neg c2]
      obtain ⟨n, hn, rfl⟩ := nI_of c1
      have h256 : n < 256 := by
        rcases Nat.lt_or_ge n 256 with q | q
        · exact q
        · exact absurd (nI_lt (a := 255) (b := n) (by omega) hn) c2
      refine rw_if_ne (tgt := 9) dJ1_indexOf_4cfef_4 (by decide) (fun _ => ?_) (fun q => absurd q (by decide))
      refine rw_iload_n dJ1_indexOf_4cfef_9 rfl rfl ?_
      refine rw_iconst (v := 0) dJ1_indexOf_4cfef_10 (by decide) ?_
      refine rw_mmax dJ1_indexOf_4cfef_11 ln_RJ1_92 mm_max_s mm_i mm_max_c (Nat.le_of_ble_eq_true rfl) (Nat.le_of_ble_eq_true rfl) ?_
      refine rw_ti (y := 0) (by decide) ?_
      refine rw_istore_n dJ1_indexOf_4cfef_14 rfl (by decide) ?_
      refine rw_iload_n dJ1_indexOf_4cfef_15 rfl rfl ?_
      refine rw_aload_n dJ1_indexOf_4cfef_16 rfl rfl ?_
      refine rw_slen dJ1_indexOf_4cfef_17 hi ?_
      refine rw_mmin dJ1_indexOf_4cfef_18 ln_RJ1_38 mm_min_s mm_i mm_min_c (Nat.le_of_ble_eq_true rfl) (Nat.le_of_ble_eq_true rfl) ?_
      refine rw_ti (y := nI (bw_slen.getD i 0)) (by unfold bw_min; rw [ite_self]) ?_
      refine rw_istore_n dJ1_indexOf_4cfef_21 rfl (by decide) ?_
      refine rw_iload_n dJ1_indexOf_4cfef_22 rfl rfl ?_
      refine rw_iload_n dJ1_indexOf_4cfef_23 rfl rfl ?_
      refine rw_icmp_lt (tgt := 29) dJ1_indexOf_4cfef_24 (by decide) (fun _ => ?_) (fun q => absurd (nI_lt (a := 0) hl1 (by omega)) q)
      refine rw_aload_n dJ1_indexOf_4cfef_29 rfl rfl ?_
      refine rw_iload_n dJ1_indexOf_4cfef_30 rfl rfl ?_
      refine rw_iload_n dJ1_indexOf_4cfef_31 rfl rfl ?_
      refine rw_iload_n dJ1_indexOf_4cfef_32 rfl rfl ?_
      refine rw_callS4 dJ1_indexOf_4cfef_33 ln_RJ1_95 ms_J1_indexOfChar_4cfef (ct_l1ixc hi h256) (Nat.le_of_ble_eq_true rfl) (Nat.le_of_ble_eq_true rfl) (bw_kki ?_)
      exact rw_iret dJ1_indexOf_4cfef_36 ⟨rfl, rfl⟩
theorem ct_six2 {w : WE} {M : Mem} {i : Nat} {c : Int32} (hi : i < 6) : Ct w 4 yJ0_indexOf_7cf53 cJ0_indexOf_7cf53 3 (some .int) [.ref (bw_oa w (1 + i)), .int c, .int 0] M (bw_pi (f_Sindex i c) M) := by
  refine Ct.of (own := RJ0) rfl (by decide) (fun v hv => bw_c3 rfl rfl rfl hv) (Nat.le_of_ble_eq_true rfl) ?_
  refine rw_aload_n dJ0_indexOf_7cf53_0 rfl rfl ?_
  refine rw_callT0 dJ0_indexOf_7cf53_1 ln_RJ0_492 mt_J0_isLatin1_aae02 hi (ct_latin1 hi) (Nat.le_of_ble_eq_true rfl) (Nat.le_of_ble_eq_true rfl) (bw_kki ?_)
  refine rw_if_eq (tgt := 23) dJ0_indexOf_7cf53_4 (by decide) (fun c => absurd c (by decide)) (fun _ => ?_)
  refine rw_aload_n dJ0_indexOf_7cf53_7 rfl rfl ?_
  refine rw_svalue dJ0_indexOf_7cf53_8 fs_J0_9 hi ?_
  refine rw_iload_n dJ0_indexOf_7cf53_11 rfl rfl ?_
  refine rw_iload_n dJ0_indexOf_7cf53_12 rfl rfl ?_
  refine rw_aload_n dJ0_indexOf_7cf53_13 rfl rfl ?_
  refine rw_callT0 dJ0_indexOf_7cf53_14 ln_RJ0_505 mv_Slen hi (ct_Slen hi rfl) (Nat.le_of_ble_eq_true rfl) (Nat.le_of_ble_eq_true rfl) (bw_kki ?_)
  refine rw_callS4 dJ0_indexOf_7cf53_17 ln_RJ0_637 ms_J1_indexOf_4cfef (ct_l1ix hi) (Nat.le_of_ble_eq_true rfl) (Nat.le_of_ble_eq_true rfl) (bw_kki ?_)
  refine rw_goto (tgt := 36) dJ0_indexOf_7cf53_20 (by decide) ?_
  exact rw_iret dJ0_indexOf_7cf53_36 ⟨rfl, rfl⟩
theorem ct_Sindex {w : WE} {M : Mem} {i : Nat} {c : Int32} (hi : i < 6) {out : Int32} (h : f_Sindex i c = out) : Ct w 5 yJ0_indexOf_0f7a4 cJ0_indexOf_0f7a4 2 (some .int) [.ref (bw_oa w (1 + i)), .int c] M (bw_pi out M) := by
  subst h
  refine Ct.of (own := RJ0) rfl (by decide) (fun v hv => bw_c2 rfl rfl hv) (Nat.le_of_ble_eq_true rfl) ?_
  refine rw_aload_n dJ0_indexOf_0f7a4_0 rfl rfl ?_
  refine rw_iload_n dJ0_indexOf_0f7a4_1 rfl rfl ?_
  refine rw_iconst (v := 0) dJ0_indexOf_0f7a4_2 (by decide) ?_
  refine rw_callT2 dJ0_indexOf_0f7a4_3 ln_RJ0_633 mt_J0_indexOf_7cf53 hi (ct_six2 hi) (Nat.le_of_ble_eq_true rfl) (Nat.le_of_ble_eq_true rfl) (bw_kki ?_)
  exact rw_iret dJ0_indexOf_0f7a4_6 ⟨rfl, rfl⟩
