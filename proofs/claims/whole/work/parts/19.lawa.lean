/-! THE CLAIM OUT OF ONE WALK OF THE LAW'S BODY. Your part is whole_start (and what it stands on); all else here is the same for every law, but numbers. -/
def R_law : String := "BookBoardsLaw"
def lw_P (b : Addr) (xs : List Int32) (args : Array Value) (s : State) : Prop := args = #[.ref b] ∧ s.IntsAt b xs ∧ xs.length ≤ 3072 ∧ (Jvm.Cond.and given_1 narrow_1).before args s = true
def lw_Q (_ : Array Value) (s : State) (o : Outcome) (t : State) : Prop := o = .returned (some (.int 1)) ∧ Framed s o t [] 600000 7302250
def lw_Z (below : List Frame) (a : Array Value) (s : State) : State → Prop := fun t => ∃ o, t.status = .running ∧ Ended t below o ∧ lw_Q a s o t
/-- the law's own end, with 1 on the stack, nothing written that was there before, its room as the claim has it -/
theorem lw_ret {p : Program} {l : Launch} {e : Env} {s : State} {m : MethodId} {below : List Frame} {meth : Method} {c : Code} {b : Nat} (hx : p.tables.exec = Jvm.exec) (hb : c.code = code) (hr : meth.sig.returnType = ret) (hlocks : meth.locks = false) {pc : Nat} {H : Heap} {ls : Array Slot} (hdg : decode code pc = .ok (.ireturn, 1)) : W p l e room_1 s m #[Value.ref b] below meth c H [] 600000 7302250 (lw_Z below #[Value.ref b] s) (F0 m pc ls [.int 1]) := by
  intro T hT X
  obtain ⟨fs, hret, hrun, hended, hW, hframe⟩ := X.leave (v := some (.int 1)) (hlocks := hlocks) (fun h => by rw [hr] at h; cases h)
  have hmeth' : T.vm.method? m = some meth := X.method'
  refine ⟨T.setFrames fs, ?_, .returned (some (.int 1)), hrun, hended, rfl, ⟨_, rfl⟩, hW, hframe⟩
  jvm_step X.here [X.here.top, hx, hb, hdg, hmeth', hr, ret, narrow_b1]
  (try refine ⟨rfl, ?_⟩); (try refine ⟨rfl, ?_⟩)
  first | (intro acts; rw [hret _ acts rfl rfl rfl]) | rw [hret _ _ rfl rfl rfl]
  exact Steps.refl _
/-- what holds at the law's entry: the machine, the code, the tables' words (any of lw_tbl by 'hts w (by decide +kernel)'), the script of L ints xs at the cell b, what the Statement gives of the start (any of its parts by flat_of_before) -/
def lw_At (p : Program) (s : State) (m : MethodId) (meth : Method) (c : Code) (b L : Nat) (xs : Nat → Int32) : Prop :=
  p.tables.exec = Jvm.exec ∧ c.code = code ∧ meth.sig.returnType = ret ∧ c.maxLocals = 4 ∧ s.vm.findClass R_law = some m.cls ∧ (∀ w ∈ lw_tbl, w.before #[Value.ref b] s = true) ∧ va_X b L xs s s.heap ∧ b < s.heap.size ∧ meth.locks = false ∧ (Jvm.Cond.and given_1 narrow_1).before #[Value.ref b] s = true

def RQ (w : WE) (b L : Nat) (xs : Nat → Int32) (cu su pc : Nat) (lv : List (Nat × Value)) (st : List Value) (M : Mem) : Prop :=
  ∀ (p : Program) (l : Launch) (e : Env) (s : State) (m : MethodId) (below : List Frame) (meth : Method) (c : Code) (H : Heap) (locs : List Loc) (ls : Array Slot),
    lw_At p s m meth c b L xs → va_K (bw_d w) vwCl (bw_T w) s → bw_bz w = s.heap.size → bw_Old w s s.heap → L ≤ 3072 → cu ≤ 600000 → su ≤ 7302250 → va_P (bw_d w) vwCl (bw_W w M) H → va_D (bw_A w) (bw_W w M) → va_S (bw_A w) s.heap H locs → bw_lv ls 4 lv →
    W p l e room_1 s m #[Value.ref b] below meth c H locs cu su (lw_Z below #[Value.ref b] s) (F0 m pc ls st)
section RLS
variable {w : WE} {b L : Nat} {xs : Nat → Int32} {cu su pc : Nat} {lv : List (Nat × Value)} {st : List Value} {M : Mem}
theorem rl_iconst {n : Int} {v : Int32} (hd : decode code pc = .ok (.iconst n, 1)) (hv0 : Int32.ofInt n = v) (k : RQ w b L xs cu su (pc + 1) lv (.int v :: st) M) : RQ w b L xs cu su pc lv st M := by
  intro p l e s m below meth c H locs ls C hK hz hO hL hu hv hP hD hS hl
  exact lv_iconst C.1 C.2.1 hd hv0 (k p l e s m below meth c H locs ls C hK hz hO hL hu hv hP hD hS hl)
theorem rl_bipush {n : Int} {v : Int32} (hd : decode code pc = .ok (.bipush n, 2)) (hv0 : (Int8.ofInt n).toInt32 = v) (k : RQ w b L xs cu su (pc + 2) lv (.int v :: st) M) : RQ w b L xs cu su pc lv st M := by
  intro p l e s m below meth c H locs ls C hK hz hO hL hu hv hP hD hS hl
  exact lv_bipush C.1 C.2.1 hd hv0 (k p l e s m below meth c H locs ls C hK hz hO hL hu hv hP hD hS hl)
theorem rl_iload_n {j : Fin 4} {i : Nat} {x : Int32} (hd : decode code pc = .ok (.iload_n j, 1)) (hi : (j : Nat) = i) (hx : lv.lookup i = some (.int x)) (k : RQ w b L xs cu su (pc + 1) lv (.int x :: st) M) : RQ w b L xs cu su pc lv st M := by
  intro p l e s m below meth c H locs ls C hK hz hO hL hu hv hP hD hS hl
  exact lv_iload_n C.1 C.2.1 hd hi (hl.2.2 _ _ hx).2 (k p l e s m below meth c H locs ls C hK hz hO hL hu hv hP hD hS hl)
theorem rl_aload_n {j : Fin 4} {i : Nat} {x : Nat} (hd : decode code pc = .ok (.aload_n j, 1)) (hi : (j : Nat) = i) (hx : lv.lookup i = some (.ref x)) (k : RQ w b L xs cu su (pc + 1) lv (.ref x :: st) M) : RQ w b L xs cu su pc lv st M := by
  intro p l e s m below meth c H locs ls C hK hz hO hL hu hv hP hD hS hl
  exact lv_aload_n C.1 C.2.1 hd hi (hl.2.2 _ _ hx).2 (k p l e s m below meth c H locs ls C hK hz hO hL hu hv hP hD hS hl)
theorem rl_iadd {x y : Int32} (hd : decode code pc = .ok (.iadd, 1)) (k : RQ w b L xs cu su (pc + 1) lv (.int (x + y) :: st) M) : RQ w b L xs cu su pc lv (.int y :: .int x :: st) M := by
  intro p l e s m below meth c H locs ls C hK hz hO hL hu hv hP hD hS hl
  exact lv_iadd C.1 C.2.1 hd (k p l e s m below meth c H locs ls C hK hz hO hL hu hv hP hD hS hl)
theorem rl_isub {x y : Int32} (hd : decode code pc = .ok (.isub, 1)) (k : RQ w b L xs cu su (pc + 1) lv (.int (x - y) :: st) M) : RQ w b L xs cu su pc lv (.int y :: .int x :: st) M := by
  intro p l e s m below meth c H locs ls C hK hz hO hL hu hv hP hD hS hl
  exact lv_isub C.1 C.2.1 hd (k p l e s m below meth c H locs ls C hK hz hO hL hu hv hP hD hS hl)
theorem rl_iand {x y : Int32} (hd : decode code pc = .ok (.iand, 1)) (k : RQ w b L xs cu su (pc + 1) lv (.int (x &&& y) :: st) M) : RQ w b L xs cu su pc lv (.int y :: .int x :: st) M := by
  intro p l e s m below meth c H locs ls C hK hz hO hL hu hv hP hD hS hl
  exact lv_iand C.1 C.2.1 hd (k p l e s m below meth c H locs ls C hK hz hO hL hu hv hP hD hS hl)
theorem rl_gt {x y : Int32} {off : Int} {tgt : Nat} (hd : decode code pc = .ok (.if_icmp .gt off, 3)) (ht : (pc : Int) + off = (tgt : Int)) (kt : y < x → RQ w b L xs cu su tgt lv st M) (kf : ¬ y < x → RQ w b L xs cu su (pc + 3) lv st M) : RQ w b L xs cu su pc lv (.int y :: .int x :: st) M := by
  intro p l e s m below meth c H locs ls C hK hz hO hL hu hv hP hD hS hl
  exact lv_icmp_gt C.1 C.2.1 hd ht (fun q => kt q p l e s m below meth c H locs ls C hK hz hO hL hu hv hP hD hS hl) (fun q => kf q p l e s m below meth c H locs ls C hK hz hO hL hu hv hP hD hS hl)
theorem rl_eq {x : Int32} {off : Int} {tgt : Nat} (hd : decode code pc = .ok (.if_icmp .eq off, 3)) (ht : (pc : Int) + off = (tgt : Int)) (kt : RQ w b L xs cu su tgt lv st M) : RQ w b L xs cu su pc lv (.int x :: .int x :: st) M := by
  intro p l e s m below meth c H locs ls C hK hz hO hL hu hv hP hD hS hl
  exact lv_icmp_eq C.1 C.2.1 hd ht (fun _ => kt p l e s m below meth c H locs ls C hK hz hO hL hu hv hP hD hS hl) (fun q => absurd rfl q)
theorem rl_ifeq {x : Int32} {off : Int} {tgt : Nat} (hd : decode code pc = .ok (.ifCond .eq off, 3)) (ht : (pc : Int) + off = (tgt : Int)) (kt : x = 0 → RQ w b L xs cu su tgt lv st M) (kf : ¬ x = 0 → RQ w b L xs cu su (pc + 3) lv st M) : RQ w b L xs cu su pc lv (.int x :: st) M := by
  intro p l e s m below meth c H locs ls C hK hz hO hL hu hv hP hD hS hl
  exact lv_if_eq C.1 C.2.1 hd ht (fun q => kt q p l e s m below meth c H locs ls C hK hz hO hL hu hv hP hD hS hl) (fun q => kf q p l e s m below meth c H locs ls C hK hz hO hL hu hv hP hD hS hl)
theorem rl_goto {off : Int} {tgt : Nat} (hd : decode code pc = .ok (.goto off, 3)) (ht : (pc : Int) + off = (tgt : Int)) (k : RQ w b L xs cu su tgt lv st M) : RQ w b L xs cu su pc lv st M := by
  intro p l e s m below meth c H locs ls C hK hz hO hL hu hv hP hD hS hl
  exact lv_goto C.1 C.2.1 hd ht (k p l e s m below meth c H locs ls C hK hz hO hL hu hv hP hD hS hl)
theorem rl_tabK {dflt lo hi : Int} {offs : Array Int} {len : Nat} {x : Int32} {off : Int} {tgt : Nat} (hd : decode code pc = .ok (.tableswitch dflt lo hi offs, len)) (h1 : ¬ x.toInt < lo) (h2 : ¬ hi < x.toInt) (ho : offs[(x.toInt - lo).toNat]? = some off) (ht : (pc : Int) + off = (tgt : Int)) (k : RQ w b L xs cu su tgt lv st M) : RQ w b L xs cu su pc lv (.int x :: st) M := by
  intro p l e s m below meth c H locs ls C hK hz hO hL hu hv hP hD hS hl
  exact lv_tableIn C.1 C.2.1 hd h1 h2 ho ht (k p l e s m below meth c H locs ls C hK hz hO hL hu hv hP hD hS hl)
theorem rl_tabD {dflt lo hi : Int} {offs : Array Int} {len : Nat} {x : Int32} {tgt : Nat} (hd : decode code pc = .ok (.tableswitch dflt lo hi offs, len)) (h : x.toInt < lo ∨ hi < x.toInt) (ht : (pc : Int) + dflt = (tgt : Int)) (k : RQ w b L xs cu su tgt lv st M) : RQ w b L xs cu su pc lv (.int x :: st) M := by
  intro p l e s m below meth c H locs ls C hK hz hO hL hu hv hP hD hS hl
  exact lv_tableOut C.1 C.2.1 hd h ht (k p l e s m below meth c H locs ls C hK hz hO hL hu hv hP hD hS hl)
theorem rl_inc {i : Nat} {n : Int} {x v : Int32} (hd : decode code pc = .ok (.iinc i n, 3)) (hx : lv.lookup i = some (.int x)) (hv0 : x + Int32.ofInt n = v) (hn : i < 4) (k : RQ w b L xs cu su (pc + 3) ((i, .int v) :: lv) st M) : RQ w b L xs cu su pc lv st M := by
  intro p l e s m below meth c H locs ls C hK hz hO hL hu hv hP hD hS hl
  subst hv0
  have hg := (hl.2.2 _ _ hx).2
  obtain ⟨ls', e', h'⟩ := bw_store (v := .int (x + Int32.ofInt n)) hl hn rfl
  intro T hT X
  obtain ⟨t, a, b⟩ := k p l e s m below meth c H locs ls' C hK hz hO hL hu hv hP hD hS h' T hT X
  refine ⟨t, ?_, b⟩
  have hexec := C.1
  have hb := C.2.1
  jvm_step X.here [X.here.top, ↓top_set X.here.top, hexec, hb, hd, hg, e']
  exact a
theorem bw_nb {s : State} (hz : bw_bz w = s.heap.size) (h : b < s.heap.size) : ¬ bw_A w b := by
  show ¬ bw_bz w ≤ b
  omega
theorem rl_len (hd : decode code pc = .ok (.arraylength, 1)) (k : RQ w b L xs cu su (pc + 1) lv (.int (Int32.ofNat L) :: st) M) : RQ w b L xs cu su pc lv (.ref b :: st) M := by
  intro p l e s m below meth c H locs ls C hK hz hO hL hu hv hP hD hS hl
  exact va_slen C.1 C.2.1 C.2.2.2.2.2.2.1 C.2.2.2.2.2.2.2.1 (bw_nb hz C.2.2.2.2.2.2.2.1) hS hd (k p l e s m below meth c H locs ls C hK hz hO hL hu hv hP hD hS hl)
theorem rl_ld {i : Int32} (hd : decode code pc = .ok (.iaload, 1)) (hin : vp_in i L) (k : RQ w b L xs cu su (pc + 1) lv (.int (xs i.toNatClampNeg) :: st) M) : RQ w b L xs cu su pc lv (.int i :: .ref b :: st) M := by
  intro p l e s m below meth c H locs ls C hK hz hO hL hu hv hP hD hS hl
  exact va_sld C.1 C.2.1 C.2.2.2.2.2.2.1 C.2.2.2.2.2.2.2.1 (bw_nb hz C.2.2.2.2.2.2.2.1) hS hin hd (k p l e s m below meth c H locs ls C hK hz hO hL hu hv hP hD hS hl)
theorem rl_sub {lv2 : List (Nat × Value)} (h : ∀ (i : Nat) (v : Value), lv2.lookup i = some v → lv.lookup i = some v) (k : RQ w b L xs cu su pc lv2 st M) : RQ w b L xs cu su pc lv st M :=
  fun p l e s m below meth c H locs ls C hK hz hO hL hu hv hP hD hS hl => k p l e s m below meth c H locs ls C hK hz hO hL hu hv hP hD hS ⟨hl.1, hl.2.1, fun i v hi => hl.2.2 i v (h i v hi)⟩
theorem rl_widen {cu' su' : Nat} (h1 : cu ≤ cu') (h2 : su ≤ su') (h3 : cu' ≤ 600000) (h4 : su' ≤ 7302250) (k : RQ w b L xs cu' su' pc lv st M) : RQ w b L xs cu su pc lv st M :=
  fun p l e s m below meth c H locs ls C hK hz hO hL hu hv hP hD hS hl => W.widen h1 h2 (k p l e s m below meth c H locs ls C hK hz hO hL h3 h4 hP hD hS hl)
theorem rl_case {x : Int32} (k : Int32) (kt : x = k → RQ w b L xs cu su pc lv (.int x :: st) M) (kf : ¬ x = k → RQ w b L xs cu su pc lv (.int x :: st) M) : RQ w b L xs cu su pc lv (.int x :: st) M := by
  by_cases h : x = k
  · exact kt h
  · exact kf h
/-- behind a call, any room -/
theorem bw_backR {R : Room} {s : State} {p : Program} {l : Launch} {e : Env} {m : MethodId} {args a : Array Value} {below : List Frame} {meth : Method} {c : Code} {H : Heap} {locs : List Loc} {ls : Array Slot} {Z' : Option Value → Heap → Prop} {mc' ms' : Nat} {rest st0 : List Value} {Qf : State → Prop}
    (hr : va_Run p l e R s m args below meth c H locs cu su mc' ms' (F0 m pc ls st0) rest (bw_Q w Z' a) (bw_A w)) (hS : va_S (bw_A w) s.heap H locs)
    (kk : ∀ (r : Option Value) (H1 : Heap) (locs1 : List Loc), Z' r H1 → va_S (bw_A w) s.heap H1 locs1 → W p l e R s m args below meth c H1 locs1 (cu + mc') (su + ms') Qf (F0 m (pc + 3) ls (r.toList ++ rest))) : W p l e R s m args below meth c H locs cu su Qf (F0 m pc ls st0) := by
  intro T hT X
  obtain ⟨v, st₀, t, T', L, h0, X', hL, e1, e2, ⟨⟨r, hv, hz⟩, hz1, hk⟩, sg⟩ := hr T hT X
  cases hv
  rw [h0] at hz1 hk
  obtain ⟨t2, a1, b1⟩ := kk v T'.heap (locs ++ L) (by rw [e1]; exact hz)
    ⟨Nat.le_trans hS.1 (by rw [e1]; exact hz1), fun q h1 h2 => by rw [e1, hk q (Nat.lt_of_lt_of_le h1 hS.1) h2]; exact hS.2.1 q h1 h2, fun q hq => by
      rcases List.mem_append.mp hq with h | h
      · exact hS.2.2 q h
      · exact hL q h⟩ T' rfl X'
  exact ⟨t2, sg t2 a1, b1⟩
theorem bw_gt {args : Array Value} {s : State} (h : ∀ x ∈ lw_tbl, x.before args s = true) : ∀ x ∈ lw_gd, x.before args s = true := fun x hx => h x (List.mem_filter.mp hx).1
theorem bw_preL {s : State} {H : Heap} {locs : List Loc} {As : List Value} (hK : va_K (bw_d w) vwCl (bw_T w) s) (hz : bw_bz w = s.heap.size) (hO : bw_Old w s s.heap) (hP : va_P (bw_d w) vwCl (bw_W w M) H) (hD : va_D (bw_A w) (bw_W w M)) (hS : va_S (bw_A w) s.heap H locs) : ∀ U : State, U.heap = H → s.WarmedH U.vm → va_Pc As (bw_Pre w M) As.toArray U := by
  intro U hU hW
  exact ⟨rfl, by rw [hU]; exact hP, va_K.moved hW.alike hK, hD, by rw [hU, hz]; exact hS.1, by rw [hU]; exact hO.go hW hS.2.1⟩
theorem rl_call0 {d' k idx ci : Nat} {y : MethodName} {cc' : ByteArray} {nL' : Nat} {ret' : Option FieldType} {post : Option Value → Mem → Prop} {F : (Nat → Int32) → List Value} (hd : decode code pc = .ok (.invokevirtual idx, 3)) (hl0 : Cond.methodLink R_law idx y ∈ lw_gd) (hm : bw_MV y cc' nL' ret' 0 ci) (hsh : ∀ r, bw_E w k r = .inr (ci, F r)) (hk : k < bw_nn M) (hc : Ct w d' y cc' nL' ret' [.ref (bw_ad w k)] M post) (hdd : d' ≤ 1000) (hst : (st.map fun v => v.category).sum ≤ 8)
    (kk : ∀ (r : Option Value) (M' : Mem), post r M' → RQ w b L xs cu su (pc + 3) lv (r.toList ++ st) M') : RQ w b L xs cu su pc lv (.ref (bw_ad w k) :: st) M := by
  intro p l e s m below meth c H locs ls C hK hz hO hL hu hv hP hD hS hl
  obtain ⟨m1, m2, m3, m4, m5, ⟨q, m6, m7⟩, m8⟩ := hm
  have hts := bw_gt C.2.2.2.2.2.1
  have hrv := va_recv (q := q) hK hP m6 (q0 := k) (a := bw_ad w k) (fs := F (M k)) (by rw [bw_get hk, hsh])
  rw [m7] at hrv
  refine bw_backR (va_runV (As := []) (rest := st) (own := R_law) (C := y.cls) (n := 0) (index := idx) (bytes := cc') (maxL := nL') (ret := ret') ⟨C.1, C.2.1, C.2.2.2.1, C.2.2.2.2.1, hts⟩ (hc l) ⟨callB_of 0 hts (bw_gi m1) rfl rfl rfl (hts _ m2) (hts _ hl0) m5 ⟨by show d' + 1 ≤ 2048; omega, by show 8 + (nL' + 11) + 40 * d' ≤ 84000; omega⟩, hts _ m3, hts _ m4⟩ ⟨bw_blind, hrv, bw_preL hK hz hO hP hD hS⟩ rfl rfl hl.1 rfl (lv_room hst) hd ⟨hu, hv⟩) hS (fun r H1 locs1 hz1 hS1 => ?_)
  obtain ⟨M1, hp1, hP1, hD1⟩ := hz1
  exact kk r M1 hp1 p l e s m below meth c H1 locs1 ls C hK hz hO hL hu hv hP1 hD1 hS1 hl
theorem rl_call1 {d' k idx ci : Nat} {y : MethodName} {cc' : ByteArray} {nL' : Nat} {ret' : Option FieldType} {post : Option Value → Mem → Prop} {F : (Nat → Int32) → List Value} {x1 : Value} (hd : decode code pc = .ok (.invokevirtual idx, 3)) (hl0 : Cond.methodLink R_law idx y ∈ lw_gd) (hm : bw_MV y cc' nL' ret' 1 ci) (hsh : ∀ r, bw_E w k r = .inr (ci, F r)) (hk : k < bw_nn M) (hc : Ct w d' y cc' nL' ret' [.ref (bw_ad w k), x1] M post) (hdd : d' ≤ 1000) (hst : (st.map fun v => v.category).sum ≤ 8)
    (kk : ∀ (r : Option Value) (M' : Mem), post r M' → RQ w b L xs cu su (pc + 3) lv (r.toList ++ st) M') : RQ w b L xs cu su pc lv (x1 :: .ref (bw_ad w k) :: st) M := by
  intro p l e s m below meth c H locs ls C hK hz hO hL hu hv hP hD hS hl
  obtain ⟨m1, m2, m3, m4, m5, ⟨q, m6, m7⟩, m8⟩ := hm
  have hts := bw_gt C.2.2.2.2.2.1
  have hrv := va_recv (q := q) hK hP m6 (q0 := k) (a := bw_ad w k) (fs := F (M k)) (by rw [bw_get hk, hsh])
  rw [m7] at hrv
  refine bw_backR (va_runV (As := [x1]) (rest := st) (own := R_law) (C := y.cls) (n := 1) (index := idx) (bytes := cc') (maxL := nL') (ret := ret') ⟨C.1, C.2.1, C.2.2.2.1, C.2.2.2.2.1, hts⟩ (hc l) ⟨callB_of 1 hts (bw_gi m1) rfl rfl rfl (hts _ m2) (hts _ hl0) m5 ⟨by show d' + 1 ≤ 2048; omega, by show 8 + (nL' + 11) + 40 * d' ≤ 84000; omega⟩, hts _ m3, hts _ m4⟩ ⟨bw_blind, hrv, bw_preL hK hz hO hP hD hS⟩ rfl rfl hl.1 rfl (lv_room hst) hd ⟨hu, hv⟩) hS (fun r H1 locs1 hz1 hS1 => ?_)
  obtain ⟨M1, hp1, hP1, hD1⟩ := hz1
  exact kk r M1 hp1 p l e s m below meth c H1 locs1 ls C hK hz hO hL hu hv hP1 hD1 hS1 hl
theorem rl_call2 {d' k idx ci : Nat} {y : MethodName} {cc' : ByteArray} {nL' : Nat} {ret' : Option FieldType} {post : Option Value → Mem → Prop} {F : (Nat → Int32) → List Value} {x1 x2 : Value} (hd : decode code pc = .ok (.invokevirtual idx, 3)) (hl0 : Cond.methodLink R_law idx y ∈ lw_gd) (hm : bw_MV y cc' nL' ret' 2 ci) (hsh : ∀ r, bw_E w k r = .inr (ci, F r)) (hk : k < bw_nn M) (hc : Ct w d' y cc' nL' ret' [.ref (bw_ad w k), x1, x2] M post) (hdd : d' ≤ 1000) (hst : (st.map fun v => v.category).sum ≤ 8)
    (kk : ∀ (r : Option Value) (M' : Mem), post r M' → RQ w b L xs cu su (pc + 3) lv (r.toList ++ st) M') : RQ w b L xs cu su pc lv (x2 :: x1 :: .ref (bw_ad w k) :: st) M := by
  intro p l e s m below meth c H locs ls C hK hz hO hL hu hv hP hD hS hl
  obtain ⟨m1, m2, m3, m4, m5, ⟨q, m6, m7⟩, m8⟩ := hm
  have hts := bw_gt C.2.2.2.2.2.1
  have hrv := va_recv (q := q) hK hP m6 (q0 := k) (a := bw_ad w k) (fs := F (M k)) (by rw [bw_get hk, hsh])
  rw [m7] at hrv
  refine bw_backR (va_runV (As := [x1, x2]) (rest := st) (own := R_law) (C := y.cls) (n := 2) (index := idx) (bytes := cc') (maxL := nL') (ret := ret') ⟨C.1, C.2.1, C.2.2.2.1, C.2.2.2.2.1, hts⟩ (hc l) ⟨callB_of 2 hts (bw_gi m1) rfl rfl rfl (hts _ m2) (hts _ hl0) m5 ⟨by show d' + 1 ≤ 2048; omega, by show 8 + (nL' + 11) + 40 * d' ≤ 84000; omega⟩, hts _ m3, hts _ m4⟩ ⟨bw_blind, hrv, bw_preL hK hz hO hP hD hS⟩ rfl rfl hl.1 rfl (lv_room hst) hd ⟨hu, hv⟩) hS (fun r H1 locs1 hz1 hS1 => ?_)
  obtain ⟨M1, hp1, hP1, hD1⟩ := hz1
  exact kk r M1 hp1 p l e s m below meth c H1 locs1 ls C hK hz hO hL hu hv hP1 hD1 hS1 hl
theorem rl_call3 {d' k idx ci : Nat} {y : MethodName} {cc' : ByteArray} {nL' : Nat} {ret' : Option FieldType} {post : Option Value → Mem → Prop} {F : (Nat → Int32) → List Value} {x1 x2 x3 : Value} (hd : decode code pc = .ok (.invokevirtual idx, 3)) (hl0 : Cond.methodLink R_law idx y ∈ lw_gd) (hm : bw_MV y cc' nL' ret' 3 ci) (hsh : ∀ r, bw_E w k r = .inr (ci, F r)) (hk : k < bw_nn M) (hc : Ct w d' y cc' nL' ret' [.ref (bw_ad w k), x1, x2, x3] M post) (hdd : d' ≤ 1000) (hst : (st.map fun v => v.category).sum ≤ 8)
    (kk : ∀ (r : Option Value) (M' : Mem), post r M' → RQ w b L xs cu su (pc + 3) lv (r.toList ++ st) M') : RQ w b L xs cu su pc lv (x3 :: x2 :: x1 :: .ref (bw_ad w k) :: st) M := by
  intro p l e s m below meth c H locs ls C hK hz hO hL hu hv hP hD hS hl
  obtain ⟨m1, m2, m3, m4, m5, ⟨q, m6, m7⟩, m8⟩ := hm
  have hts := bw_gt C.2.2.2.2.2.1
  have hrv := va_recv (q := q) hK hP m6 (q0 := k) (a := bw_ad w k) (fs := F (M k)) (by rw [bw_get hk, hsh])
  rw [m7] at hrv
  refine bw_backR (va_runV (As := [x1, x2, x3]) (rest := st) (own := R_law) (C := y.cls) (n := 3) (index := idx) (bytes := cc') (maxL := nL') (ret := ret') ⟨C.1, C.2.1, C.2.2.2.1, C.2.2.2.2.1, hts⟩ (hc l) ⟨callB_of 3 hts (bw_gi m1) rfl rfl rfl (hts _ m2) (hts _ hl0) m5 ⟨by show d' + 1 ≤ 2048; omega, by show 8 + (nL' + 11) + 40 * d' ≤ 84000; omega⟩, hts _ m3, hts _ m4⟩ ⟨bw_blind, hrv, bw_preL hK hz hO hP hD hS⟩ rfl rfl hl.1 rfl (lv_room hst) hd ⟨hu, hv⟩) hS (fun r H1 locs1 hz1 hS1 => ?_)
  obtain ⟨M1, hp1, hP1, hD1⟩ := hz1
  exact kk r M1 hp1 p l e s m below meth c H1 locs1 ls C hK hz hO hL hu hv hP1 hD1 hS1 hl
theorem rl_call4 {d' k idx ci : Nat} {y : MethodName} {cc' : ByteArray} {nL' : Nat} {ret' : Option FieldType} {post : Option Value → Mem → Prop} {F : (Nat → Int32) → List Value} {x1 x2 x3 x4 : Value} (hd : decode code pc = .ok (.invokevirtual idx, 3)) (hl0 : Cond.methodLink R_law idx y ∈ lw_gd) (hm : bw_MV y cc' nL' ret' 4 ci) (hsh : ∀ r, bw_E w k r = .inr (ci, F r)) (hk : k < bw_nn M) (hc : Ct w d' y cc' nL' ret' [.ref (bw_ad w k), x1, x2, x3, x4] M post) (hdd : d' ≤ 1000) (hst : (st.map fun v => v.category).sum ≤ 8)
    (kk : ∀ (r : Option Value) (M' : Mem), post r M' → RQ w b L xs cu su (pc + 3) lv (r.toList ++ st) M') : RQ w b L xs cu su pc lv (x4 :: x3 :: x2 :: x1 :: .ref (bw_ad w k) :: st) M := by
  intro p l e s m below meth c H locs ls C hK hz hO hL hu hv hP hD hS hl
  obtain ⟨m1, m2, m3, m4, m5, ⟨q, m6, m7⟩, m8⟩ := hm
  have hts := bw_gt C.2.2.2.2.2.1
  have hrv := va_recv (q := q) hK hP m6 (q0 := k) (a := bw_ad w k) (fs := F (M k)) (by rw [bw_get hk, hsh])
  rw [m7] at hrv
  refine bw_backR (va_runV (As := [x1, x2, x3, x4]) (rest := st) (own := R_law) (C := y.cls) (n := 4) (index := idx) (bytes := cc') (maxL := nL') (ret := ret') ⟨C.1, C.2.1, C.2.2.2.1, C.2.2.2.2.1, hts⟩ (hc l) ⟨callB_of 4 hts (bw_gi m1) rfl rfl rfl (hts _ m2) (hts _ hl0) m5 ⟨by show d' + 1 ≤ 2048; omega, by show 8 + (nL' + 11) + 40 * d' ≤ 84000; omega⟩, hts _ m3, hts _ m4⟩ ⟨bw_blind, hrv, bw_preL hK hz hO hP hD hS⟩ rfl rfl hl.1 rfl (lv_room hst) hd ⟨hu, hv⟩) hS (fun r H1 locs1 hz1 hS1 => ?_)
  obtain ⟨M1, hp1, hP1, hD1⟩ := hz1
  exact kk r M1 hp1 p l e s m below meth c H1 locs1 ls C hK hz hO hL hu hv hP1 hD1 hS1 hl
theorem rl_call5 {d' k idx ci : Nat} {y : MethodName} {cc' : ByteArray} {nL' : Nat} {ret' : Option FieldType} {post : Option Value → Mem → Prop} {F : (Nat → Int32) → List Value} {x1 x2 x3 x4 x5 : Value} (hd : decode code pc = .ok (.invokevirtual idx, 3)) (hl0 : Cond.methodLink R_law idx y ∈ lw_gd) (hm : bw_MV y cc' nL' ret' 5 ci) (hsh : ∀ r, bw_E w k r = .inr (ci, F r)) (hk : k < bw_nn M) (hc : Ct w d' y cc' nL' ret' [.ref (bw_ad w k), x1, x2, x3, x4, x5] M post) (hdd : d' ≤ 1000) (hst : (st.map fun v => v.category).sum ≤ 8)
    (kk : ∀ (r : Option Value) (M' : Mem), post r M' → RQ w b L xs cu su (pc + 3) lv (r.toList ++ st) M') : RQ w b L xs cu su pc lv (x5 :: x4 :: x3 :: x2 :: x1 :: .ref (bw_ad w k) :: st) M := by
  intro p l e s m below meth c H locs ls C hK hz hO hL hu hv hP hD hS hl
  obtain ⟨m1, m2, m3, m4, m5, ⟨q, m6, m7⟩, m8⟩ := hm
  have hts := bw_gt C.2.2.2.2.2.1
  have hrv := va_recv (q := q) hK hP m6 (q0 := k) (a := bw_ad w k) (fs := F (M k)) (by rw [bw_get hk, hsh])
  rw [m7] at hrv
  refine bw_backR (va_runV (As := [x1, x2, x3, x4, x5]) (rest := st) (own := R_law) (C := y.cls) (n := 5) (index := idx) (bytes := cc') (maxL := nL') (ret := ret') ⟨C.1, C.2.1, C.2.2.2.1, C.2.2.2.2.1, hts⟩ (hc l) ⟨callB_of 5 hts (bw_gi m1) rfl rfl rfl (hts _ m2) (hts _ hl0) m5 ⟨by show d' + 1 ≤ 2048; omega, by show 8 + (nL' + 11) + 40 * d' ≤ 84000; omega⟩, hts _ m3, hts _ m4⟩ ⟨bw_blind, hrv, bw_preL hK hz hO hP hD hS⟩ rfl rfl hl.1 rfl (lv_room hst) hd ⟨hu, hv⟩) hS (fun r H1 locs1 hz1 hS1 => ?_)
  obtain ⟨M1, hp1, hP1, hD1⟩ := hz1
  exact kk r M1 hp1 p l e s m below meth c H1 locs1 ls C hK hz hO hL hu hv hP1 hD1 hS1 hl
theorem rl_callZ {d' mc' ms' k idx ci : Nat} {y : MethodName} {cc' : ByteArray} {nL' : Nat} {ret' : Option FieldType} {Z' : Option Value → Heap → Prop} {F : (Nat → Int32) → List Value} (hd : decode code pc = .ok (.invokevirtual idx, 3)) (hl0 : Cond.methodLink R_law idx y ∈ lw_gd) (hm : bw_MV y cc' nL' ret' 0 ci) (hsh : ∀ r, bw_E w k r = .inr (ci, F r)) (hk : k < bw_nn M) (hc : bw_M w d' mc' ms' y cc' nL' ret' [.ref (bw_ad w k)] M Z') (hdd : d' ≤ 1000) (h1 : cu + mc' ≤ 600000) (h2 : su + ms' ≤ 7302250) (hst : (st.map fun v => v.category).sum ≤ 8)
    (kk : ∀ (r : Option Value) (H1 : Heap), Z' r H1 → ∃ (f : Nat → Nat) (M' : Mem), va_P (bw_d w) vwCl (bw_W (bw_wa w f) M') H1 ∧ va_D (bw_A w) (bw_W (bw_wa w f) M') ∧ RQ (bw_wa w f) b L xs (cu + mc') (su + ms') (pc + 3) lv (r.toList ++ st) M') : RQ w b L xs cu su pc lv (.ref (bw_ad w k) :: st) M := by
  intro p l e s m below meth c H locs ls C hK hz hO hL hu hv hP hD hS hl
  obtain ⟨m1, m2, m3, m4, m5, ⟨q, m6, m7⟩, m8⟩ := hm
  have hts := bw_gt C.2.2.2.2.2.1
  have hrv := va_recv (q := q) hK hP m6 (q0 := k) (a := bw_ad w k) (fs := F (M k)) (by rw [bw_get hk, hsh])
  rw [m7] at hrv
  refine bw_backR (va_runV (As := []) (rest := st) (own := R_law) (C := y.cls) (n := 0) (index := idx) (bytes := cc') (maxL := nL') (ret := ret') ⟨C.1, C.2.1, C.2.2.2.1, C.2.2.2.2.1, hts⟩ (hc l) ⟨callB_of 0 hts (bw_gi m1) rfl rfl rfl (hts _ m2) (hts _ hl0) m5 ⟨by show d' + 1 ≤ 2048; omega, by show 8 + (nL' + 11) + 40 * d' ≤ 84000; omega⟩, hts _ m3, hts _ m4⟩ ⟨bw_blind, hrv, bw_preL hK hz hO hP hD hS⟩ rfl rfl hl.1 rfl (lv_room hst) hd ⟨h1, h2⟩) hS (fun r H1 locs1 hz1 hS1 => ?_)
  obtain ⟨f, M1, hP1, hD1, k⟩ := kk r H1 hz1
  exact k p l e s m below meth c H1 locs1 ls C hK hz hO hL h1 h2 hP1 hD1 hS1 hl
theorem rl_end (hd : decode code pc = .ok (.ireturn, 1)) : RQ w b L xs cu su pc lv [.int 1] M := by
  intro p l e s m below meth c H locs ls C hK hz hO hL hu hv hP hD hS hl
  refine W.widen hu hv ?_
  refine va_forget (fun q hq => by have h9 : bw_bz w ≤ q.base := hS.2.2 q hq; rw [← hz]; exact h9) ?_
  exact lw_ret C.1 C.2.1 C.2.2.1 C.2.2.2.2.2.2.2.2.1 hd
end RLS
