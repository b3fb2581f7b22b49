def bw_wa (w : WE) (f : Nat → Nat) : WE := (w.1, w.2.1, f, w.2.2.2.1, w.2.2.2.2)
section RXR
variable {w : WE} {d cu su mc ms : Nat} {cc : ByteArray} {own nm : String} {nL : Nat} {ret : Option FieldType} {Z : Option Value → Heap → Prop} {pc : Nat} {lv : List (Nat × Value)} {st : List Value} {ws l : va_W} {M : Mem}
theorem bw_pl {k : Nat} {l : va_W} (hk : k < bw_nn M) : (bw_W w M ++ l)[k]? = some (bw_ad w k, bw_E w k (M k)) := by
  rw [List.getElem?_append_left (by simpa [bw_W] using hk)]
  exact bw_get hk
theorem rx_gw {k j ci idx : Nat} {v : Value} {F : (Nat → Int32) → List Value} (hd : decode cc pc = .ok (.getfield idx, 3)) (hf : bw_FL own idx ci j) (hsh : ∀ r, bw_E w k r = .inr (ci, F r)) (hk : k < bw_nn M) (hv0 : (F (M k))[j]? = some v) (kk : RX w d cu su mc ms cc own nm nL ret Z (pc + 3) lv (v :: st) (bw_W w M) l) : RX w d cu su mc ms cc own nm nL ret Z pc lv (.ref (bw_ad w k) :: st) (bw_W w M) l := by
  intro p l0 e s m args below meth c H locs ls C hO hI hu hv hP hD hS hl
  obtain ⟨Cn, T, N, h1, h2, h3, h4⟩ := hf
  exact va_get C.1 C.2.1 C.2.2.2.2.1 h3 C.2.2.2.1 C.2.2.2.2.2.2.2.1 hP k (by rw [bw_pl hk, hsh]) h1 j h2 (C.2.2.2.2.1 _ h4) (fun _ h => h) hv0 hd (kk p l0 e s m args below meth c H locs ls C hO hI hu hv hP hD hS hl)
theorem rx_alenW {k n : Nat} {v : Int32} (hd : decode cc pc = .ok (.arraylength, 1)) (hsh : ∀ r, bw_E w k r = .inl (bw_ca w 0, n, .inl r)) (hk : k < bw_nn M) (hv0 : Int32.ofNat n = v) (kk : RX w d cu su mc ms cc own nm nL ret Z (pc + 1) lv (.int v :: st) (bw_W w M) l) : RX w d cu su mc ms cc own nm nL ret Z pc lv (.ref (bw_ad w k) :: st) (bw_W w M) l := by
  intro p l0 e s m args below meth c H locs ls C hO hI hu hv hP hD hS hl
  exact va_alen (x := (n, .inl (M k))) C.1 C.2.1 C.2.2.2.2.2.2.2.1 hP k 0 (by rw [bw_pl hk, hsh]) rfl hv0 hd (kk p l0 e s m args below meth c H locs ls C hO hI hu hv hP hD hS hl)
theorem rx_mm {idx : Nat} {x y : Int32} (hd : decode cc pc = .ok (.invokestatic idx, 3)) (hl0 : Cond.methodLink own idx Lib.Math.min.name ∈ lw_gd) (hdd : 1 ≤ d) (hst : (st.map fun v => v.category).sum ≤ 8) (kk : RX w d cu su mc ms cc own nm nL ret Z (pc + 3) lv (.int (bw_min x y) :: st) ws l) : RX w d cu su mc ms cc own nm nL ret Z pc lv (.int y :: .int x :: st) ws l := by
  intro p l0 e s m args below meth c H locs ls C hO hI hu hv hP hD hS hl
  have hts := C.2.2.2.2.1
  refine va_mmin C.1 C.2.1 (C.2.2.1.trans hl.1.symm) C.2.2.2.1 (hts _ hl0) (hts _ mm_min_s) (hts _ mm_i) (hts _ mm_min_c) hdd ?_ hu hv hd (kk p l0 e s m args below meth c H locs ls C hO hI hu hv hP hD hS hl)
  show _ ≤ 40 * d
  omega
theorem rx_mx {idx : Nat} {x y : Int32} (hd : decode cc pc = .ok (.invokestatic idx, 3)) (hl0 : Cond.methodLink own idx Lib.Math.max.name ∈ lw_gd) (hdd : 1 ≤ d) (hst : (st.map fun v => v.category).sum ≤ 8) (kk : RX w d cu su mc ms cc own nm nL ret Z (pc + 3) lv (.int (bw_max x y) :: st) ws l) : RX w d cu su mc ms cc own nm nL ret Z pc lv (.int y :: .int x :: st) ws l := by
  intro p l0 e s m args below meth c H locs ls C hO hI hu hv hP hD hS hl
  have hts := C.2.2.2.2.1
  refine va_mmax C.1 C.2.1 (C.2.2.1.trans hl.1.symm) C.2.2.2.1 (hts _ hl0) (hts _ mm_max_s) (hts _ mm_i) (hts _ mm_max_c) hdd ?_ hu hv hd (kk p l0 e s m args below meth c H locs ls C hO hI hu hv hP hD hS hl)
  show _ ≤ 40 * d
  omega
theorem rx_acopy {idx k0 k1 a n0 n1 : Nat} {g : Nat → Int32} {sp dp n : Int32} (hd : decode cc pc = .ok (.invokestatic idx, 3)) (hl0 : Cond.methodLink own idx arraycopyName ∈ lw_gd) (hsh0 : ∀ r, bw_E w k0 r = .inl (bw_ca w 0, n0, .inl r)) (hk0 : k0 < bw_nn M) (hk1 : l[k1]? = some (a, .inl (bw_ca w 0, n1, .inl g))) (hok : bw_cpok sp dp n n0 n1 = true) (hdd : 1 ≤ d) (hst : (st.map fun v => v.category).sum ≤ 8) (kk : RX w d cu su mc ms cc own nm nL ret Z (pc + 3) lv st (bw_W w M) (l.set k1 (a, .inl (bw_ca w 0, n1, .inl (va_cpy (M k0) g sp.toNatClampNeg dp.toNatClampNeg n.toNatClampNeg))))) : RX w d cu su mc ms cc own nm nL ret Z pc lv (.int n :: .int dp :: .ref a :: .int sp :: .ref (bw_ad w k0) :: st) (bw_W w M) l := by
  intro p l0 e s m args below meth c H locs ls C hO hI hu hv hP hD hS hl
  simp only [bw_cpok, Bool.and_eq_true, decide_eq_true_eq] at hok
  obtain ⟨⟨⟨⟨h1, h2⟩, h3⟩, h4⟩, h5⟩ := hok
  have hts := C.2.2.2.2.1
  refine va_copyi C.1 C.2.1 (C.2.2.1.trans hl.1.symm) C.2.2.2.1 (hts _ hl0) (hts _ ac_w.1) (hts _ ac_w.2.1) (hts _ ac_w.2.2) C.2.2.2.2.2.2.2.1 hP hD hS k0 ((bw_W w M).length + k1) 0 0 (by rw [bw_pl hk0, hsh0]) (bw_sl hk1) rfl rfl rfl (bw_ge0 h1) (bw_ge0 h2) (bw_ge0 h3) h4 h5 (fun _ _ => rfl) hdd ?_ hd (fun H1 locs1 hP1 hD1 hS1 => ?_)
  · have e9 : nativeFrameWords "java/lang/System" "arraycopy" 5 = 7 := by decide
    rw [e9]
    show _ ≤ 40 * d
    omega
  · rw [bw_ss] at hP1 hD1
    exact kk p l0 e s m args below meth c H1 locs1 ls C hO hI hu hv hP1 hD1 hS1 hl
theorem rx_aret {v : Value} {rt : FieldType} (hd : decode cc pc = .ok (.areturn, 1)) (hrt : (∃ n, rt = .object n) ∨ ∃ t, rt = .array t) (hv0 : v = .null ∨ ∃ a, v = .ref a) (hz : ∀ H, va_P (bw_d w) vwCl (ws ++ l) H → va_D (bw_A w) (ws ++ l) → Z (some v) H) : RX w d mc ms mc ms cc own nm nL (some rt) Z pc lv [v] ws l := by
  intro p l0 e s m args below meth c H locs ls C hO hI hu hv hP hD hS hl
  exact W.aret (v := v) C.1 C.2.1 C.2.2.2.2.2.1 hrt hv0 (fun t ht hW => ⟨⟨_, rfl, by rw [ht]; exact hz _ hP hD⟩, hS.F ht⟩) hS.2.2 hd C.2.2.2.2.2.2.1
theorem rx_widen {cu' su' : Nat} (h1 : cu ≤ cu') (h2 : su ≤ su') (h3 : cu' ≤ mc) (h4 : su' ≤ ms) (k : RX w d cu' su' mc ms cc own nm nL ret Z pc lv st ws l) : RX w d cu su mc ms cc own nm nL ret Z pc lv st ws l :=
  fun p l0 e s m args below meth c H locs ls C hO hI hu hv hP hD hS hl => W.widen h1 h2 (k p l0 e s m args below meth c H locs ls C hO hI h3 h4 hP hD hS hl)
theorem rw_widen {cu' su' : Nat} (h1 : cu ≤ cu') (h2 : su ≤ su') (h3 : cu' ≤ mc) (h4 : su' ≤ ms) (k : RW w d cu' su' mc ms cc own nL ret Z pc lv st M) : RW w d cu su mc ms cc own nL ret Z pc lv st M :=
  fun p l0 e s m args below meth c H locs ls C hu hv hP hD hS hl => W.widen h1 h2 (k p l0 e s m args below meth c H locs ls C h3 h4 hP hD hS hl)
theorem rw_rx (k : ∀ nm, RX w d cu su mc ms cc own nm nL ret Z pc lv st (bw_W w M) []) : RW w d cu su mc ms cc own nL ret Z pc lv st M := by
  intro p l0 e s m args below meth c H locs ls C hu hv hP hD hS hl
  exact k meth.name p l0 e s m args below meth c H locs ls C C.2.2.2.2.2.2.2.2.2.2.2.2.2.2.2.1 rfl hu hv (by rw [List.append_nil]; exact hP) (by rw [List.append_nil]; exact hD) hS hl
theorem rw_aretZ {v : Value} {rt : FieldType} (hd : decode cc pc = .ok (.areturn, 1)) (hrt : (∃ n, rt = .object n) ∨ ∃ t, rt = .array t) (hv0 : v = .null ∨ ∃ a, v = .ref a) (hz : ∀ H, va_P (bw_d w) vwCl (bw_W w M) H → va_D (bw_A w) (bw_W w M) → Z (some v) H) : RW w d mc ms mc ms cc own nL (some rt) Z pc lv [v] M := by
  intro p l0 e s m args below meth c H locs ls C hu hv hP hD hS hl
  exact W.aret (v := v) C.1 C.2.1 C.2.2.2.2.2.1 hrt hv0 (fun t ht hW => ⟨⟨_, rfl, by rw [ht]; exact hz _ hP hD⟩, hS.F ht⟩) hS.2.2 hd C.2.2.2.2.2.2.1
theorem rw_iretZ {v : Int32} (hd : decode cc pc = .ok (.ireturn, 1)) (hz : ∀ H, va_P (bw_d w) vwCl (bw_W w M) H → va_D (bw_A w) (bw_W w M) → Z (some (.int v)) H) : RW w d mc ms mc ms cc own nL (some .int) Z pc lv [.int v] M := by
  intro p l0 e s m args below meth c H locs ls C hu hv hP hD hS hl
  exact W.iret (v := v) C.1 C.2.1 C.2.2.2.2.2.1 (fun t ht hW => ⟨⟨_, rfl, by rw [ht]; exact hz _ hP hD⟩, hS.F ht⟩) hS.2.2 hd C.2.2.2.2.2.2.1
/-- a call whose callee makes cells, static, two arguments -/
theorem rx_callS2 {d' mc' ms' idx : Nat} {y : MethodName} {cc' : ByteArray} {nL' : Nat} {ret' : Option FieldType} {x1 x2 : Value} {Z' : Option Value → Heap → Prop} (hd : decode cc pc = .ok (.invokestatic idx, 3)) (hl0 : Cond.methodLink own idx y ∈ lw_gd) (hm : bw_MS y cc' nL' ret' 2) (hc : CtX w d' mc' ms' y cc' nL' ret' [x1, x2] (ws ++ l) Z') (hdd : d' + 1 ≤ d) (h1 : cu + mc' ≤ mc) (h2 : su + ms' ≤ ms) (hst : (st.map fun v => v.category).sum ≤ 8)
    (kk : ∀ r H1, Z' r H1 → ∃ l', va_P (bw_d w) vwCl (ws ++ l') H1 ∧ va_D (bw_A w) (ws ++ l') ∧ RX w d (cu + mc') (su + ms') mc ms cc own nm nL ret Z (pc + 3) lv (r.toList ++ st) ws l') : RX w d cu su mc ms cc own nm nL ret Z pc lv (x2 :: x1 :: st) ws l := by
  intro p l0 e s m args below meth c H locs ls C hO hI hu hv hP hD hS hl
  obtain ⟨m1, m2, m3, m5, m8⟩ := hm
  have hts := C.2.2.2.2.1
  refine bw_back (w' := w) (va_runS (As := [x1, x2]) (rest := st) (own := own) (n := 2) (index := idx) (bytes := cc') (maxL := nL') (ret := ret') ⟨C.1, C.2.1, C.2.2.1, C.2.2.2.1, hts⟩ (hc l0) ⟨callB_of 2 hts (bw_gi m1) rfl rfl rfl (hts _ m2) (hts _ hl0) m5 ⟨hdd, by show 8 + (nL' + 11) + 40 * d' ≤ 40 * d; omega⟩, hts _ m3⟩ ⟨bw_blindX, bw_preX C hO hP hD hS⟩ rfl rfl hl.1 rfl (lv_room hst) hd ⟨h1, h2⟩) hS (fun r H1 locs1 hz hS1 => ?_)
  obtain ⟨l', hP1, hD1, k⟩ := kk r H1 hz
  exact k p l0 e s m args below meth c H1 locs1 ls C hO hI h1 h2 hP1 hD1 hS1 hl
theorem rx_callI3 {d' mc' ms' a idx : Nat} {y : MethodName} {cc' : ByteArray} {nL' : Nat} {x1 x2 x3 : Value} {Z' : Option Value → Heap → Prop} (hd : decode cc pc = .ok (.invokespecial idx, 3)) (hl0 : Cond.methodLink own idx y ∈ lw_gd) (hm : bw_MI y cc' nL' 3) (hc : CtX w d' mc' ms' y cc' nL' none [.ref a, x1, x2, x3] (ws ++ l) Z') (hdd : d' + 1 ≤ d) (h1 : cu + mc' ≤ mc) (h2 : su + ms' ≤ ms) (hst : (st.map fun v => v.category).sum ≤ 8)
    (kk : ∀ r H1, Z' r H1 → ∃ l', va_P (bw_d w) vwCl (ws ++ l') H1 ∧ va_D (bw_A w) (ws ++ l') ∧ r = none ∧ RX w d (cu + mc') (su + ms') mc ms cc own nm nL ret Z (pc + 3) lv st ws l') : RX w d cu su mc ms cc own nm nL ret Z pc lv (x3 :: x2 :: x1 :: .ref a :: st) ws l := by
  intro p l0 e s m args below meth c H locs ls C hO hI hu hv hP hD hS hl
  obtain ⟨m1, m2, m3, m5, m6, m8⟩ := hm
  have hts := C.2.2.2.2.1
  refine bw_back (w' := w) (va_runI (As := [x1, x2, x3]) (rest := st) (own := own) (n := 3) (index := idx) (bytes := cc') (maxL := nL') ⟨C.1, C.2.1, C.2.2.1, C.2.2.2.1, hts⟩ (hc l0) ⟨callB_of 3 hts (bw_gi m1) rfl rfl rfl (hts _ m2) (hts _ hl0) m5 ⟨hdd, by show 8 + (nL' + 11) + 40 * d' ≤ 40 * d; omega⟩, m6, hts _ m3⟩ ⟨bw_blindX, bw_preX C hO hP hD hS⟩ rfl rfl hl.1 rfl (lv_room hst) hd ⟨h1, h2⟩) hS (fun r H1 locs1 hz hS1 => ?_)
  obtain ⟨l', hP1, hD1, rfl, k⟩ := kk r H1 hz
  exact k p l0 e s m args below meth c H1 locs1 ls C hO hI h1 h2 hP1 hD1 hS1 hl
end RXR
theorem ms_copyOf : bw_MS yJ7_copyOf_59c91 cJ7_copyOf_59c91 3 (some (.array .int)) 2 := ⟨gd_of 933 (by decide +kernel) rfl, gd_of 75 (by decide +kernel) rfl, gd_of 932 (by decide +kernel) rfl, ⟨by decide, by decide, by decide +kernel⟩, by decide⟩
theorem ln_RX3_51 : Cond.methodLink RX3 51 yJ7_copyOf_59c91 ∈ lw_gd := gd_of 931 (by decide +kernel) rfl
theorem ln_RJ7_150 : Cond.methodLink RJ7 150 arraycopyName ∈ lw_gd := gd_of 942 (by decide +kernel) rfl
theorem ln_RJ7_304 : Cond.methodLink RJ7 304 Lib.Math.min.name ∈ lw_gd := gd_of 941 (by decide +kernel) rfl
set_option maxHeartbeats 1000000 in
theorem cx_copyOf {w : WE} {M : Mem} {l : va_W} {n : Int32} (hn : bw_ib n 96 = true) : CtX w 1 1 n.toNatClampNeg yJ7_copyOf_59c91 cJ7_copyOf_59c91 3 (some (.array .int)) [.ref (bw_ad w 15), .int n] (bw_W w M ++ l) (fun r H => ∃ q : Nat, r = some (.ref q) ∧ va_P (bw_d w) vwCl (bw_W w M ++ (l ++ [(q, .inl (bw_ca w 0, n.toNatClampNeg, .inl (va_cpy (M 15) (fun _ => 0) 0 0 n.toNatClampNeg)))])) H ∧ va_D (bw_A w) (bw_W w M ++ (l ++ [(q, .inl (bw_ca w 0, n.toNatClampNeg, .inl (va_cpy (M 15) (fun _ => 0) 0 0 n.toNatClampNeg)))]))) := by
  have hlt := bw_lt hn
  have h0 : 0 ≤ n := by
    simp only [bw_ib, Bool.and_eq_true, decide_eq_true_eq] at hn
    exact hn.1
  obtain ⟨k, hk, rfl⟩ := nI_of (bw_ge0 h0)
  rw [nI_clamp hk] at hlt
  refine CtX.of (own := RJ7) rfl (by decide) (fun v hv => bw_c2 rfl rfl hv) (Nat.le_of_ble_eq_true rfl) ?_
  refine rx_iload_n dJ7_copyOf_59c91_0 rfl rfl ?_
  refine rx_aload_n dJ7_copyOf_59c91_1 rfl rfl ?_
  refine rx_alenW (v := 96) dJ7_copyOf_59c91_2 (sh_r_steps w) (bw_kl (by decide)) (by decide) ?_
  refine rx_icmp_ne (tgt := 14) dJ7_copyOf_59c91_3 (by decide) (fun _ => ?_) (fun q => absurd ((nI_eq (a := k) (b := 96) hk (by omega)).mp q) (by omega))
  refine rx_iload_n dJ7_copyOf_59c91_14 rfl rfl ?_
  refine rx_newi (N' := (nI k).toNatClampNeg) dJ7_copyOf_59c91_15 ac_int (bw_ge0 h0) rfl (by rw [nI_clamp hk]; omega) (Nat.le_refl _) (by omega) (fun q => ?_)
  refine rx_astore_n dJ7_copyOf_59c91_17 rfl (by decide) ?_
  refine rx_aload_n dJ7_copyOf_59c91_18 rfl rfl ?_
  refine rx_iconst (v := 0) dJ7_copyOf_59c91_19 (by decide) ?_
  refine rx_aload_n dJ7_copyOf_59c91_20 rfl rfl ?_
  refine rx_iconst (v := 0) dJ7_copyOf_59c91_21 (by decide) ?_
  refine rx_aload_n dJ7_copyOf_59c91_22 rfl rfl ?_
  refine rx_alenW (v := 96) dJ7_copyOf_59c91_23 (sh_r_steps w) (bw_kl (by decide)) (by decide) ?_
  refine rx_iload_n dJ7_copyOf_59c91_24 rfl rfl ?_
  refine rx_mm dJ7_copyOf_59c91_25 ln_RJ7_304 (Nat.le_refl _) (Nat.le_of_ble_eq_true rfl) ?_
  refine rx_ti (y := nI k) ?_ ?_
  · unfold bw_min
    have hc9 : nI k < (96 : Int32) := nI_lt (b := 96) hlt (by omega)
    rw [if_pos hc9]
  refine rx_acopy (k1 := l.length) dJ7_copyOf_59c91_28 ln_RJ7_150 (sh_r_steps w) (bw_kl (by decide)) (by rw [List.getElem?_append_right (Nat.le_refl _), Nat.sub_self]; rfl) ?_ (Nat.le_refl _) (Nat.le_of_ble_eq_true rfl) ?_
  · simp only [bw_cpok, Bool.and_eq_true, decide_eq_true_eq]
    refine ⟨⟨⟨⟨by decide, by decide⟩, h0⟩, ?_⟩, ?_⟩
    · rw [nI_clamp hk, sb_cl0]; omega
    · rw [sb_cl0]; omega
  refine rx_aload_n dJ7_copyOf_59c91_31 rfl rfl ?_
  refine rx_cs (cu' := 1) (su' := (nI k).toNatClampNeg) (by omega) (by omega) ?_
  refine rx_aret dJ7_copyOf_59c91_32 (Or.inr ⟨_, rfl⟩) (Or.inr ⟨_, rfl⟩) (fun H hP hD => ⟨q, rfl, ?_⟩)
  rw [List.set_append_right _ _ (Nat.le_refl _), Nat.sub_self] at hP hD
  exact ⟨hP, hD⟩
theorem cx_X1_init {w : WE} {ws l1 : va_W} {a q1 : Nat} {key ops : Int32} {e1 : va_E} (hops : bw_ib ops 97 = true) : CtX w 1 1 (bw_max 1 ops).toNatClampNeg yX1_init cX1_init 4 none [.ref a, .int key, .int ops, .ref q1] (ws ++ [(a, .inr (1, [.int 0, .int 0, .null, .null])), (q1, e1)]) (fun r H => r = none ∧ ∃ q : Nat, va_P (bw_d w) vwCl (ws ++ [(a, .inr (1, [.int key, .int ops, .ref q1, .ref q])), (q1, e1), (q, .inl (bw_ca w 0, (bw_max 1 ops).toNatClampNeg, .inl (fun _ => 0)))]) H ∧ va_D (bw_A w) (ws ++ [(a, .inr (1, [.int key, .int ops, .ref q1, .ref q])), (q1, e1), (q, .inl (bw_ca w 0, (bw_max 1 ops).toNatClampNeg, .inl (fun _ => 0)))])) := by
  have hlt := bw_lt hops
  have h0 : 0 ≤ ops := by
    simp only [bw_ib, Bool.and_eq_true, decide_eq_true_eq] at hops
    exact hops.1
  obtain ⟨k, hk, rfl⟩ := nI_of (bw_ge0 h0)
  rw [nI_clamp hk] at hlt
  have hmx : bw_max 1 (nI k) = nI (max 1 k) := by
    unfold bw_max
    by_cases h : 1 < k
    · have hc9 : (1 : Int32) < nI k := nI_lt (a := 1) h hk
      rw [if_pos hc9, Nat.max_eq_right (by omega)]
    · have hc9 : ¬ (1 : Int32) < nI k := nI_nlt (a := 1) (b := k) (by omega) (by omega)
      rw [if_neg hc9, Nat.max_eq_left (by omega)]
      rfl
  have hm2 : (bw_max 1 (nI k)).toNatClampNeg = max 1 k := by rw [hmx, nI_clamp (by omega)]
  refine CtX.of (own := RX1) rfl (by decide) (fun v hv => bw_c4 rfl rfl rfl rfl hv) (Nat.le_of_ble_eq_true rfl) ?_
  refine rx_aload_n dX1_init_0 rfl rfl ?_
  refine rx_obj dX1_init_1 lo_RX1_1 ob_i ob_c (by decide) (Nat.le_of_ble_eq_true rfl) ?_
  refine rx_aload_n dX1_init_4 rfl rfl ?_
  refine rx_iload_n dX1_init_5 rfl rfl ?_
  refine rx_putF (k := 0) dX1_init_6 fl_RX1_7 ff_1_0 rfl rfl rfl rfl (Nat.le_of_ble_eq_true rfl) ?_
  refine rx_l (l' := [(a, .inr (1, [.int key, .int 0, .null, .null])), (q1, e1)]) rfl ?_
  refine rx_aload_n dX1_init_9 rfl rfl ?_
  refine rx_iload_n dX1_init_10 rfl rfl ?_
  refine rx_putF (k := 0) dX1_init_11 fl_RX1_13 ff_1_1 rfl rfl rfl rfl (Nat.le_of_ble_eq_true rfl) ?_
  refine rx_l (l' := [(a, .inr (1, [.int key, .int (nI k), .null, .null])), (q1, e1)]) rfl ?_
  refine rx_aload_n dX1_init_14 rfl rfl ?_
  refine rx_aload_n dX1_init_15 rfl rfl ?_
  refine rx_putF (k := 0) dX1_init_16 fl_RX1_16 ff_1_2 rfl rfl rfl rfl (Nat.le_of_ble_eq_true rfl) ?_
  refine rx_l (l' := [(a, .inr (1, [.int key, .int (nI k), .ref q1, .null])), (q1, e1)]) rfl ?_
  refine rx_aload_n dX1_init_19 rfl rfl ?_
  refine rx_iconst (v := 1) dX1_init_20 (by decide) ?_
  refine rx_iload_n dX1_init_21 rfl rfl ?_
  refine rx_mx dX1_init_22 ln_RX1_20 (by decide) (Nat.le_of_ble_eq_true rfl) ?_
  refine rx_newi (N' := (bw_max 1 (nI k)).toNatClampNeg) dX1_init_25 ac_int (by rw [hmx]; exact nI_pos (by omega)) rfl (by rw [hm2]; omega) (Nat.le_refl _) (by omega) (fun q => ?_)
  refine rx_cs (cu' := 1) (su' := (bw_max 1 (nI k)).toNatClampNeg) rfl (by omega) (rx_l (l' := [(a, .inr (1, [.int key, .int (nI k), .ref q1, .null])), (q1, e1), (q, .inl (bw_ca w 0, (bw_max 1 (nI k)).toNatClampNeg, .inl (fun _ => 0)))]) rfl ?_)
  refine rx_putF (k := 0) dX1_init_27 fl_RX1_26 ff_1_3 rfl rfl rfl rfl (Nat.le_of_ble_eq_true rfl) ?_
  refine rx_l (l' := [(a, .inr (1, [.int key, .int (nI k), .ref q1, .ref q])), (q1, e1), (q, .inl (bw_ca w 0, (bw_max 1 (nI k)).toNatClampNeg, .inl (fun _ => 0)))]) rfl ?_
  intro p l0 e s m args below meth c H locs ls C hO hI hu hv hP hD hS hl
  exact W.vret C.1 C.2.1 C.2.2.2.2.2.1 (fun t ht hW => ⟨⟨_, rfl, rfl, q, by rw [ht]; exact hP, hD⟩, hS.F ht⟩) hS.2.2 dX1_init_30 C.2.2.2.2.2.2.1

