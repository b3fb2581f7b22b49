/-! level 2: text, one turn of the model's loop -/
def tx_SG (n : Nat) (v1 v2 : Int32) (M : Mem) : Option (Int32 × Mem) := (if (f_X10_signHere M) = 0 then some ((0 : Int32), M) else (if (f_X10_rank (f_X10_signHere M)) = (3 : Int32) then if bw_ib v1 10 = true then (if (M 115 v1.toNatClampNeg) = 0 then (if (f_X10_rank (f_X10_signHere M)) = (3 : Int32) then bw_ml (bw_up M 115 v1.toNatClampNeg (bw_nz (1 : Int32))) fun M340 => (f_X10_settle M340 (f_X10_rank (f_X10_signHere M))).bind fun q341 => if bw_ib (q341 93 39) 96 = true then bw_ml (bw_up q341 114 (q341 93 39).toNatClampNeg (f_X10_signHere M)) fun M343 => bw_ml (bw_up M343 93 39 ((M343 93 39) + (1 : Int32))) fun M344 => (f_X10_go M344).bind fun q345 => f_X10_takesE_L28 n v1 v2 (1 : Int32) q345 else none else bw_ml (bw_up M 115 v1.toNatClampNeg (bw_nz (if (f_X10_rank (f_X10_signHere M)) ≤ (3 : Int32) then (0 : Int32) else (if (M 115 v1.toNatClampNeg) = 0 then (0 : Int32) else (1 : Int32))))) fun M348 => (f_X10_settle M348 (f_X10_rank (f_X10_signHere M))).bind fun q349 => if bw_ib (q349 93 39) 96 = true then bw_ml (bw_up q349 114 (q349 93 39).toNatClampNeg (f_X10_signHere M)) fun M351 => bw_ml (bw_up M351 93 39 ((M351 93 39) + (1 : Int32))) fun M352 => (f_X10_go M352).bind fun q353 => f_X10_takesE_L28 n v1 v2 (1 : Int32) q353 else none) else some ((0 : Int32), M)) else none else (if (f_X10_rank (f_X10_signHere M)) = (3 : Int32) then if bw_ib v1 10 = true then bw_ml (bw_up M 115 v1.toNatClampNeg (bw_nz (1 : Int32))) fun M315 => (f_X10_settle M315 (f_X10_rank (f_X10_signHere M))).bind fun q316 => if bw_ib (q316 93 39) 96 = true then bw_ml (bw_up q316 114 (q316 93 39).toNatClampNeg (f_X10_signHere M)) fun M318 => bw_ml (bw_up M318 93 39 ((M318 93 39) + (1 : Int32))) fun M319 => (f_X10_go M319).bind fun q320 => f_X10_takesE_L28 n v1 v2 (1 : Int32) q320 else none else none else (if (f_X10_rank (f_X10_signHere M)) ≤ (3 : Int32) then if bw_ib v1 10 = true then bw_ml (bw_up M 115 v1.toNatClampNeg (bw_nz (0 : Int32))) fun M323 => (f_X10_settle M323 (f_X10_rank (f_X10_signHere M))).bind fun q324 => if bw_ib (q324 93 39) 96 = true then bw_ml (bw_up q324 114 (q324 93 39).toNatClampNeg (f_X10_signHere M)) fun M326 => bw_ml (bw_up M326 93 39 ((M326 93 39) + (1 : Int32))) fun M327 => (f_X10_go M327).bind fun q328 => f_X10_takesE_L28 n v1 v2 (1 : Int32) q328 else none else none else if bw_ib v1 10 = true then bw_ml (bw_up M 115 v1.toNatClampNeg (bw_nz (if (M 115 v1.toNatClampNeg) = 0 then (0 : Int32) else (1 : Int32)))) fun M331 => (f_X10_settle M331 (f_X10_rank (f_X10_signHere M))).bind fun q332 => if bw_ib (q332 93 39) 96 = true then bw_ml (bw_up q332 114 (q332 93 39).toNatClampNeg (f_X10_signHere M)) fun M334 => bw_ml (bw_up M334 93 39 ((M334 93 39) + (1 : Int32))) fun M335 => (f_X10_go M335).bind fun q336 => f_X10_takesE_L28 n v1 v2 (1 : Int32) q336 else none else none))))
def tx_SP (n : Nat) (v1 v2 x : Int32) (M : Mem) : Option (Int32 × Mem) := bw_ml (bw_up M 115 v1.toNatClampNeg (bw_nz x)) fun M340 => (f_X10_settle M340 (f_X10_rank (f_X10_signHere M))).bind fun q341 => if bw_ib (q341 93 39) 96 = true then bw_ml (bw_up q341 114 (q341 93 39).toNatClampNeg (f_X10_signHere M)) fun M343 => bw_ml (bw_up M343 93 39 ((M343 93 39) + (1 : Int32))) fun M344 => (f_X10_go M344).bind fun q345 => f_X10_takesE_L28 n v1 v2 (1 : Int32) q345 else none
theorem tx_SG0 {n : Nat} {v1 v2 : Int32} {M : Mem} (h : f_X10_signHere M = 0) : tx_SG n v1 v2 M = some (0, M) := by
  unfold tx_SG
  rw [if_pos h]
theorem tx_SG1 {n : Nat} {v1 v2 : Int32} {M : Mem} (h : ¬ f_X10_signHere M = 0) (hr : f_X10_rank (f_X10_signHere M) = 3) (hi : bw_ib v1 10 = true) (ht : ¬ M 115 v1.toNatClampNeg = 0) : tx_SG n v1 v2 M = some (0, M) := by
  unfold tx_SG
  rw [if_neg h, if_pos hr, hi, if_pos rfl, if_neg ht]
theorem tx_SG2 {n : Nat} {v1 v2 : Int32} {M : Mem} (h : ¬ f_X10_signHere M = 0) (hr : f_X10_rank (f_X10_signHere M) = 3) (hi : bw_ib v1 10 = true) (ht : M 115 v1.toNatClampNeg = 0) : tx_SG n v1 v2 M = tx_SP n v1 v2 1 M := by
  unfold tx_SG tx_SP
  rw [if_neg h, if_pos hr, hi, if_pos rfl, if_pos ht, if_pos hr]
theorem tx_SG3 {n : Nat} {v1 v2 : Int32} {M : Mem} (h : ¬ f_X10_signHere M = 0) (hr : ¬ f_X10_rank (f_X10_signHere M) = 3) (hi : bw_ib v1 10 = true) (hl : f_X10_rank (f_X10_signHere M) ≤ 3) : tx_SG n v1 v2 M = tx_SP n v1 v2 0 M := by
  unfold tx_SG tx_SP
  rw [if_neg h, if_neg hr, if_neg hr, if_pos hl, hi, if_pos rfl]
theorem tx_SG4 {n : Nat} {v1 v2 : Int32} {M : Mem} (h : ¬ f_X10_signHere M = 0) (hr : ¬ f_X10_rank (f_X10_signHere M) = 3) (hi : bw_ib v1 10 = true) (hl : ¬ f_X10_rank (f_X10_signHere M) ≤ 3) : tx_SG n v1 v2 M = tx_SP n v1 v2 (if M 115 v1.toNatClampNeg = 0 then 0 else 1) M := by
  unfold tx_SG tx_SP
  rw [if_neg h, if_neg hr, if_neg hr, if_neg hl, hi, if_pos rfl]
theorem tx_l0 {n : Nat} {v1 v2 : Int32} {M : Mem} (h : M 93 29 = 0) : f_X10_takesE_L28 (n + 1) v1 v2 0 M = (f_X10_settle M (0 : Int32)).bind fun q => (if v1 = 0 then some ((1 : Int32), q) else some ((0 : Int32), q)) := by
  rw [f_X10_takesE_L28, if_pos rfl, if_pos h]
theorem tx_l1 {n : Nat} {v1 v2 : Int32} {M : Mem} (h0 : ¬ M 93 29 = 0) (h3 : M 93 29 = 3) (h4 : M 93 30 = 41) (hv : ¬ v1 ≤ 0) : f_X10_takesE_L28 (n + 1) v1 v2 0 M = (f_X10_settle M (0 : Int32)).bind fun q354 => bw_ml (bw_up q354 93 39 ((q354 93 39) - (1 : Int32))) fun M355 => (f_X10_settle M355 (6 : Int32)).bind fun q356 => (f_X10_notsOpen q356).bind fun q357 => (f_X10_go q356).bind fun q358 => f_X10_takesE_L28 n (v1 - 1) q357 0 q358 := by
  rw [f_X10_takesE_L28, if_pos rfl, if_neg h0, if_pos rfl, if_pos h3, if_pos h4, if_neg hv]
theorem tx_l2 {n : Nat} {v1 v2 : Int32} {M : Mem} (h0 : ¬ M 93 29 = 0) (h : ¬ (M 93 29 = 3 ∧ M 93 30 = 41 ∧ ¬ v1 ≤ 0)) : f_X10_takesE_L28 (n + 1) v1 v2 0 M = tx_SG n v1 v2 M := by
  rw [f_X10_takesE_L28, if_pos rfl, if_neg h0, if_pos rfl]
  unfold tx_SG
  by_cases h3 : M 93 29 = 3
  · rw [if_pos h3]
    by_cases h4 : M 93 30 = 41
    · have hv : v1 ≤ 0 := Classical.byContradiction (fun q => h ⟨h3, h4, q⟩)
      rw [if_pos h4, if_pos hv]
    · rw [if_neg h4]
  · rw [if_neg h3]
theorem tx_l3 {n : Nat} {v1 v2 : Int32} {M : Mem} (h3 : M 93 29 = 3) (h4 : M 93 30 = 33) (hv : ¬ 8 ≤ v2) (hi : bw_ib (M 93 39) 96 = true) : f_X10_takesE_L28 (n + 1) v1 v2 1 M = bw_ml (bw_up M 114 (M 93 39).toNatClampNeg (-10 : Int32)) fun M429 => bw_ml (bw_up M429 93 39 ((M429 93 39) + (1 : Int32))) fun M430 => (f_X10_go M430).bind fun q431 => (f_X10_notsOpen q431).bind fun q432 => f_X10_takesE_L28 n v1 q432 1 q431 := by
  have n1 : ¬ (1 : Int32) = 0 := by decide
  rw [f_X10_takesE_L28, if_neg n1, if_neg n1, if_pos h3, if_pos h4, if_neg hv, hi, if_pos rfl]
theorem tx_l4 {n : Nat} {v1 v2 : Int32} {M : Mem} (h3 : M 93 29 = 3) (h4 : M 93 30 = 40) (hv : ¬ 8 ≤ v1) (hi : bw_ib (M 93 39) 96 = true) (hj : bw_ib (v1 + 1) 10 = true) : f_X10_takesE_L28 (n + 1) v1 v2 1 M = bw_ml (bw_up M 114 (M 93 39).toNatClampNeg (-11 : Int32)) fun M422 => bw_ml (bw_up M422 93 39 ((M422 93 39) + (1 : Int32))) fun M423 => bw_ml (bw_up M423 115 (v1 + 1).toNatClampNeg (bw_nz (0 : Int32))) fun M425 => (f_X10_go M425).bind fun q426 => (f_X10_notsOpen q426).bind fun q427 => f_X10_takesE_L28 n (v1 + 1) q427 1 q426 := by
  have n1 : ¬ (1 : Int32) = 0 := by decide
  have n33 : ¬ M 93 30 = 33 := by rw [h4]; decide
  rw [f_X10_takesE_L28, if_neg n1, if_neg n1, if_pos h3, if_neg n33, if_pos h3, if_pos h4, if_neg hv, hi, if_pos rfl]
  simp only [hj, if_pos]
theorem tx_l5 {n : Nat} {v1 v2 : Int32} {M : Mem} (ha : ¬ (M 93 29 = 3 ∧ M 93 30 = 33 ∧ ¬ 8 ≤ v2)) (hb : ¬ (M 93 29 = 3 ∧ M 93 30 = 40 ∧ ¬ 8 ≤ v1)) : f_X10_takesE_L28 (n + 1) v1 v2 1 M = (f_X10_takesPart M).bind fun q417 => (if q417.1 = 0 then some ((0 : Int32), q417.2) else (f_X10_notsOpen q417.2).bind fun q420 => f_X10_takesE_L28 n v1 q420 (0 : Int32) q417.2) := by
  have n1 : ¬ (1 : Int32) = 0 := by decide
  rw [f_X10_takesE_L28, if_neg n1, if_neg n1]
  by_cases h3 : M 93 29 = 3
  · rw [if_pos h3]
    by_cases h4 : M 93 30 = 33
    · have hv : 8 ≤ v2 := Classical.byContradiction (fun q => ha ⟨h3, h4, q⟩)
      have n40 : ¬ M 93 30 = 40 := by rw [h4]; decide
      rw [if_pos h4, if_pos hv, if_pos h3, if_neg n40]
    · rw [if_neg h4, if_pos h3]
      by_cases h5 : M 93 30 = 40
      · have hv : 8 ≤ v1 := Classical.byContradiction (fun q => hb ⟨h3, h5, q⟩)
        rw [if_pos h5, if_pos hv]
      · rw [if_neg h5]
  · rw [if_neg h3, if_neg h3]
/-- names -/
def tx_nm (key c : Nat) : Nat := if key = 0 then (if c = 104 then 0 else if c = 110 then 1 else if c = 108 then 2 else 9) else if key = 1 then (if c = 104 then 0 else if c = 112 then 1 else 9) else (if c = 112 then 0 else if c = 121 then 1 else 9)
def tx_nI (x : Nat) : Int32 := if x = 9 then -1 else nI x
theorem tx_nm3 (key c : Nat) : tx_nm key c = 9 ∨ tx_nm key c < z_nms key := by
  unfold tx_nm z_nms
  by_cases k0 : key = 0
  · rw [if_pos k0, if_pos k0]
    repeat' split
    all_goals omega
  · rw [if_neg k0, if_neg k0]
    repeat' split
    all_goals omega

theorem tx_nmI {M : Mem} {key c : Nat} (hk : key ≤ 2) (h : M 93 32 = nI key) (hc : c < 256) : f_X10_nameOf M (nI c) = tx_nI (tx_nm key c) := by
  unfold f_X10_nameOf
  rw [h]
  by_cases a1 : c = 104
  · subst a1
    obtain rfl | rfl | rfl : key = 0 ∨ key = 1 ∨ key = 2 := by omega
    all_goals decide
  · by_cases a2 : c = 110
    · subst a2
      obtain rfl | rfl | rfl : key = 0 ∨ key = 1 ∨ key = 2 := by omega
      all_goals decide
    · by_cases a3 : c = 108
      · subst a3
        obtain rfl | rfl | rfl : key = 0 ∨ key = 1 ∨ key = 2 := by omega
        all_goals decide
      · by_cases a4 : c = 112
        · subst a4
          obtain rfl | rfl | rfl : key = 0 ∨ key = 1 ∨ key = 2 := by omega
          all_goals decide
        · by_cases a5 : c = 121
          · subst a5
            obtain rfl | rfl | rfl : key = 0 ∨ key = 1 ∨ key = 2 := by omega
            all_goals decide
          · have b1 : ¬ nI c = (104 : Int32) := z_neI (b := 104) a1 (by omega) (by omega)
            have b2 : ¬ nI c = (110 : Int32) := z_neI (b := 110) a2 (by omega) (by omega)
            have b3 : ¬ nI c = (108 : Int32) := z_neI (b := 108) a3 (by omega) (by omega)
            have b4 : ¬ nI c = (112 : Int32) := z_neI (b := 112) a4 (by omega) (by omega)
            have b5 : ¬ nI c = (121 : Int32) := z_neI (b := 121) a5 (by omega) (by omega)
            have e : tx_nm key c = 9 := by
              unfold tx_nm
              rw [if_neg a1, if_neg a2, if_neg a3, if_neg a1, if_neg a4, if_neg a4, if_neg a5]
              split
              · rfl
              · split <;> rfl
            rw [e, if_neg b1, if_neg b2, if_neg b3, if_neg b1, if_neg b4, if_neg b4, if_neg b5]
            split
            · rfl
            · split <;> rfl

/-- signs that join -/
def tx_jc (c : Nat) : Nat := if c = 38 then 10011 else if c = 42 then 10017 else if c = 43 then 10015 else if c = 45 then 10016 else if c = 47 then 10018 else if c = 60 then 10012 else if c = 61 then 10013 else if c = 62 then 10014 else if c = 124 then 10010 else 0
theorem tx_shI {M : Mem} {c : Nat} (hc : c < 256) (h9 : M 93 29 = 3) (h0 : M 93 30 = nI c) : f_X10_signHere M = if tx_jc c = 0 then 0 else z_menc (tx_jc c) := by
  unfold f_X10_signHere
  rw [h9, h0, if_pos rfl]
  by_cases a0 : c = 38
  · subst a0
    decide
  · skip
    by_cases a1 : c = 42
    · subst a1
      decide
    · skip
      by_cases a2 : c = 43
      · subst a2
        decide
      · skip
        by_cases a3 : c = 45
        · subst a3
          decide
        · skip
          by_cases a4 : c = 47
          · subst a4
            decide
          · skip
            by_cases a5 : c = 60
            · subst a5
              decide
            · skip
              by_cases a6 : c = 61
              · subst a6
                decide
              · skip
                by_cases a7 : c = 62
                · subst a7
                  decide
                · skip
                  by_cases a8 : c = 124
                  · subst a8
                    decide
                  · skip
                    have b0 : ¬ nI c = (38 : Int32) := z_neI (b := 38) a0 (by omega) (by omega)
                    have b1 : ¬ nI c = (42 : Int32) := z_neI (b := 42) a1 (by omega) (by omega)
                    have b2 : ¬ nI c = (43 : Int32) := z_neI (b := 43) a2 (by omega) (by omega)
                    have b3 : ¬ nI c = (45 : Int32) := z_neI (b := 45) a3 (by omega) (by omega)
                    have b4 : ¬ nI c = (47 : Int32) := z_neI (b := 47) a4 (by omega) (by omega)
                    have b5 : ¬ nI c = (60 : Int32) := z_neI (b := 60) a5 (by omega) (by omega)
                    have b6 : ¬ nI c = (61 : Int32) := z_neI (b := 61) a6 (by omega) (by omega)
                    have b7 : ¬ nI c = (62 : Int32) := z_neI (b := 62) a7 (by omega) (by omega)
                    have b8 : ¬ nI c = (124 : Int32) := z_neI (b := 124) a8 (by omega) (by omega)
                    have e : tx_jc c = 0 := by unfold tx_jc; rw [if_neg a0, if_neg a1, if_neg a2, if_neg a3, if_neg a4, if_neg a5, if_neg a6, if_neg a7, if_neg a8]
                    rw [e, if_pos rfl, if_neg b0, if_neg b1, if_neg b2, if_neg b3, if_neg b4, if_neg b5, if_neg b6, if_neg b7, if_neg b8]
theorem tx_jnI {l c : Nat} (hl : l ≤ 4) (hc : c < 256) : f_X3_isJoint (nI l) (nI c) = if tx_jc c ≠ 0 ∧ tx_rk (tx_jc c) = l + 1 then 1 else 0 := by
  by_cases a0 : c = 38
  · subst a0
    obtain rfl | rfl | rfl | rfl | rfl : l = 0 ∨ l = 1 ∨ l = 2 ∨ l = 3 ∨ l = 4 := by omega
    all_goals decide
  · skip
    by_cases a1 : c = 42
    · subst a1
      obtain rfl | rfl | rfl | rfl | rfl : l = 0 ∨ l = 1 ∨ l = 2 ∨ l = 3 ∨ l = 4 := by omega
      all_goals decide
    · skip
      by_cases a2 : c = 43
      · subst a2
        obtain rfl | rfl | rfl | rfl | rfl : l = 0 ∨ l = 1 ∨ l = 2 ∨ l = 3 ∨ l = 4 := by omega
        all_goals decide
      · skip
        by_cases a3 : c = 45
        · subst a3
          obtain rfl | rfl | rfl | rfl | rfl : l = 0 ∨ l = 1 ∨ l = 2 ∨ l = 3 ∨ l = 4 := by omega
          all_goals decide
        · skip
          by_cases a4 : c = 47
          · subst a4
            obtain rfl | rfl | rfl | rfl | rfl : l = 0 ∨ l = 1 ∨ l = 2 ∨ l = 3 ∨ l = 4 := by omega
            all_goals decide
          · skip
            by_cases a5 : c = 60
            · subst a5
              obtain rfl | rfl | rfl | rfl | rfl : l = 0 ∨ l = 1 ∨ l = 2 ∨ l = 3 ∨ l = 4 := by omega
              all_goals decide
            · skip
              by_cases a6 : c = 61
              · subst a6
                obtain rfl | rfl | rfl | rfl | rfl : l = 0 ∨ l = 1 ∨ l = 2 ∨ l = 3 ∨ l = 4 := by omega
                all_goals decide
              · skip
                by_cases a7 : c = 62
                · subst a7
                  obtain rfl | rfl | rfl | rfl | rfl : l = 0 ∨ l = 1 ∨ l = 2 ∨ l = 3 ∨ l = 4 := by omega
                  all_goals decide
                · skip
                  by_cases a8 : c = 124
                  · subst a8
                    obtain rfl | rfl | rfl | rfl | rfl : l = 0 ∨ l = 1 ∨ l = 2 ∨ l = 3 ∨ l = 4 := by omega
                    all_goals decide
                  · skip
                    have b0 : ¬ nI c = (38 : Int32) := z_neI (b := 38) a0 (by omega) (by omega)
                    have b1 : ¬ nI c = (42 : Int32) := z_neI (b := 42) a1 (by omega) (by omega)
                    have b2 : ¬ nI c = (43 : Int32) := z_neI (b := 43) a2 (by omega) (by omega)
                    have b3 : ¬ nI c = (45 : Int32) := z_neI (b := 45) a3 (by omega) (by omega)
                    have b4 : ¬ nI c = (47 : Int32) := z_neI (b := 47) a4 (by omega) (by omega)
                    have b5 : ¬ nI c = (60 : Int32) := z_neI (b := 60) a5 (by omega) (by omega)
                    have b6 : ¬ nI c = (61 : Int32) := z_neI (b := 61) a6 (by omega) (by omega)
                    have b7 : ¬ nI c = (62 : Int32) := z_neI (b := 62) a7 (by omega) (by omega)
                    have b8 : ¬ nI c = (124 : Int32) := z_neI (b := 124) a8 (by omega) (by omega)
                    have e : tx_jc c = 0 := by unfold tx_jc; rw [if_neg a0, if_neg a1, if_neg a2, if_neg a3, if_neg a4, if_neg a5, if_neg a6, if_neg a7, if_neg a8]
                    rw [e, if_neg (show ¬ ((0 : Nat) ≠ 0 ∧ tx_rk 0 = l + 1) from fun h => h.1 rfl)]
                    unfold f_X3_isJoint
                    simp only [b0, b1, b2, b3, b4, b5, b6, b7, b8, if_false, ite_self]
theorem tx_jcB (c : Nat) : tx_jc c = 0 ∨ (10010 ≤ tx_jc c ∧ tx_jc c ≤ 10018) := by
  unfold tx_jc
  repeat' split
  all_goals omega
theorem tx_cenJ (c : Nat) (h : tx_jc c ≠ 0) : z_cenc (tx_jc c) = -(nI c) := by
  by_cases a0 : c = 38
  · subst a0
    decide
  · skip
    by_cases a1 : c = 42
    · subst a1
      decide
    · skip
      by_cases a2 : c = 43
      · subst a2
        decide
      · skip
        by_cases a3 : c = 45
        · subst a3
          decide
        · skip
          by_cases a4 : c = 47
          · subst a4
            decide
          · skip
            by_cases a5 : c = 60
            · subst a5
              decide
            · skip
              by_cases a6 : c = 61
              · subst a6
                decide
              · skip
                by_cases a7 : c = 62
                · subst a7
                  decide
                · skip
                  by_cases a8 : c = 124
                  · subst a8
                    decide
                  · skip
                    have e : tx_jc c = 0 := by unfold tx_jc; rw [if_neg a0, if_neg a1, if_neg a2, if_neg a3, if_neg a4, if_neg a5, if_neg a6, if_neg a7, if_neg a8]
                    exact absurd e h
