def bw_AOs (U : State) : Prop := va_AO RX0 U ∧ va_AO RX1 U ∧ va_AO RX4 U ∧ va_AO RX5 U
def RX (w : WE) (d cu su mc ms : Nat) (cc : ByteArray) (own nm : String) (nL : Nat) (ret : Option FieldType) (Z : Option Value → Heap → Prop) (pc : Nat) (lv : List (Nat × Value)) (st : List Value) (ws l : va_W) : Prop :=
  ∀ (p : Program) (l0 : Launch) (e : Env) (s : State) (m : MethodId) (args : Array Value) (below : List Frame) (meth : Method) (c : Code) (H : Heap) (locs : List Loc) (ls : Array Slot),
    bw_CX w d mc ms cc own nL ret p s m args meth c → bw_AOs s → meth.name = nm → cu ≤ mc → su ≤ ms → va_P (bw_d w) vwCl (ws ++ l) H → va_D (bw_A w) (ws ++ l) → va_S (bw_A w) s.heap H locs → bw_lv ls nL lv →
    W p l0 e (bw_rm d mc ms) s m args below meth c H locs cu su (MQ below (bw_Q w Z) args s mc ms (bw_A w)) (F0 m pc ls st)
def bw_PreX (w : WE) (ws : va_W) (U : State) : Prop := va_P (bw_d w) vwCl ws U.heap ∧ va_K (bw_d w) vwCl (bw_T w) U ∧ va_D (bw_A w) ws ∧ bw_bz w ≤ U.heap.size ∧ bw_Old w U U.heap ∧ bw_AOs U
def bw_AOs.moved {u U : State} (hvm : u.vm.Alike U.vm) (h : bw_AOs u) : bw_AOs U := ⟨h.1.moved hvm, h.2.1.moved hvm, h.2.2.1.moved hvm, h.2.2.2.moved hvm⟩
def CtX (w : WE) (d mc ms : Nat) (y : MethodName) (cc : ByteArray) (nL : Nat) (ret : Option FieldType) (As : List Value) (ws : va_W) (Z : Option Value → Heap → Prop) : Prop :=
  ∀ l : Launch, Met l y (.code y cc nL ret :: lw_gd) (bw_rm d mc ms) (va_Pc As (bw_PreX w ws)) (bw_Q w Z) mc ms (bw_A w)
def bw_ZX (w : WE) (r0 : Option Value) (X : va_W → Prop) : Option Value → Heap → Prop := fun r H => r = r0 ∧ ∃ ws, X ws ∧ va_P (bw_d w) vwCl ws H ∧ va_D (bw_A w) ws
theorem CtX.of {w : WE} {d mc ms : Nat} {y : MethodName} {cc : ByteArray} {nL : Nat} {own : String} {ret : Option FieldType} {As : List Value} {ws l : va_W} {Z : Option Value → Heap → Prop} (ho : y.cls = own) (hy : plainName own = true) (hA : ∀ v ∈ As, v.category = 1) (hn : As.length ≤ nL)
    (k : RX w d 0 0 mc ms cc own y.name nL ret Z 0 (bw_args 0 As) [] ws l) : CtX w d mc ms y cc nL ret As (ws ++ l) Z := by
  subst ho
  intro l0
  refine Met.ofW (cc := cc) (maxL := nL) (ret := ret) hy rfl ?_
  intro p e s m args below meth c s₁ B hml hv
  obtain ⟨rfl, hP, hK, hD, hz, hO, hAO⟩ := hv
  have hts := atoms_spec (ws := .code y cc nL ret :: lw_gd) B.pre
  have hown : s.vm.findClass y.cls = some m.cls := findClass_of_methodNamed B.named
  have hl := lv_entry As (n := nL) (by rw [lg_sl_1 hA]; exact hn)
  rw [lg_entry_eq]
  refine k p l0 e s m As.toArray below meth c s.heap [] _ ⟨B.exec, B.bytes, hml, hown, fun x hx => hts x (List.mem_cons_of_mem _ hx), B.returns, B.notSynchronized, hK, hz, hO⟩ hAO (name_of_methodNamed B.named B.method).1 (Nat.zero_le _) (Nat.zero_le _) hP hD va_S.rf ⟨hl.1, hl.2.1, fun i v hi => ?_⟩
  have hm := bw_lk_mem hi
  refine ⟨hA v (bw_args_c hm), hl.2.2 (i, v) ?_⟩
  rw [bw_args_eq As 0 hA]
  exact hm
theorem bw_sl {ws l : va_W} {k : Nat} {x : Nat × va_E} (h : l[k]? = some x) : (ws ++ l)[ws.length + k]? = some x := by
  rw [List.getElem?_append_right (by omega), show ws.length + k - ws.length = k by omega]
  exact h
theorem bw_ss {ws l : va_W} {k : Nat} {x : Nat × va_E} : (ws ++ l).set (ws.length + k) x = ws ++ l.set k x := by
  rw [List.set_append_right _ _ (by omega), show ws.length + k - ws.length = k by omega]
section RXS
variable {w : WE} {d cu su mc ms : Nat} {cc : ByteArray} {own nm : String} {nL : Nat} {ret : Option FieldType} {Z : Option Value → Heap → Prop} {pc : Nat} {lv : List (Nat × Value)} {st : List Value} {ws l : va_W}
theorem rx_iconst {n : Int} {v : Int32} (hd : decode cc pc = .ok (.iconst n, 1)) (hv0 : Int32.ofInt n = v) (k : RX w d cu su mc ms cc own nm nL ret Z (pc + 1) lv (.int v :: st) ws l) : RX w d cu su mc ms cc own nm nL ret Z pc lv st ws l :=
  fun p l0 e s m args below meth c H locs ls C hO hI hu hv hP hD hS hl => lv_iconst C.1 C.2.1 hd hv0 (k p l0 e s m args below meth c H locs ls C hO hI hu hv hP hD hS hl)
theorem rx_bipush {n : Int} {v : Int32} (hd : decode cc pc = .ok (.bipush n, 2)) (hv0 : (Int8.ofInt n).toInt32 = v) (k : RX w d cu su mc ms cc own nm nL ret Z (pc + 2) lv (.int v :: st) ws l) : RX w d cu su mc ms cc own nm nL ret Z pc lv st ws l :=
  fun p l0 e s m args below meth c H locs ls C hO hI hu hv hP hD hS hl => lv_bipush C.1 C.2.1 hd hv0 (k p l0 e s m args below meth c H locs ls C hO hI hu hv hP hD hS hl)
theorem rx_sipush {n : Int} {v : Int32} (hd : decode cc pc = .ok (.sipush n, 3)) (hv0 : (Int16.ofInt n).toInt32 = v) (k : RX w d cu su mc ms cc own nm nL ret Z (pc + 3) lv (.int v :: st) ws l) : RX w d cu su mc ms cc own nm nL ret Z pc lv st ws l :=
  fun p l0 e s m args below meth c H locs ls C hO hI hu hv hP hD hS hl => lv_sipush C.1 C.2.1 hd hv0 (k p l0 e s m args below meth c H locs ls C hO hI hu hv hP hD hS hl)
theorem rx_iload_n {j : Fin 4} {i : Nat} {x : Int32} (hd : decode cc pc = .ok (.iload_n j, 1)) (hi : (j : Nat) = i) (hx : lv.lookup i = some (.int x)) (k : RX w d cu su mc ms cc own nm nL ret Z (pc + 1) lv (.int x :: st) ws l) : RX w d cu su mc ms cc own nm nL ret Z pc lv st ws l :=
  fun p l0 e s m args below meth c H locs ls C hO hI hu hv hP hD hS hl => lv_iload_n C.1 C.2.1 hd hi (hl.2.2 _ _ hx).2 (k p l0 e s m args below meth c H locs ls C hO hI hu hv hP hD hS hl)
theorem rx_aload_n {j : Fin 4} {i : Nat} {x : Nat} (hd : decode cc pc = .ok (.aload_n j, 1)) (hi : (j : Nat) = i) (hx : lv.lookup i = some (.ref x)) (k : RX w d cu su mc ms cc own nm nL ret Z (pc + 1) lv (.ref x :: st) ws l) : RX w d cu su mc ms cc own nm nL ret Z pc lv st ws l :=
  fun p l0 e s m args below meth c H locs ls C hO hI hu hv hP hD hS hl => lv_aload_n C.1 C.2.1 hd hi (hl.2.2 _ _ hx).2 (k p l0 e s m args below meth c H locs ls C hO hI hu hv hP hD hS hl)
theorem rx_istore_n {j : Fin 4} {i : Nat} {x : Int32} (hd : decode cc pc = .ok (.istore_n j, 1)) (hi : (j : Nat) = i) (hn : i < nL) (k : RX w d cu su mc ms cc own nm nL ret Z (pc + 1) ((i, .int x) :: lv) st ws l) : RX w d cu su mc ms cc own nm nL ret Z pc lv (.int x :: st) ws l := by
  intro p l0 e s m args below meth c H locs ls C hO hI hu hv hP hD hS hl
  subst hi
  obtain ⟨ls', e', h'⟩ := bw_store (v := .int x) hl hn rfl
  intro T hT X
  obtain ⟨t, a, b⟩ := k p l0 e s m args below meth c H locs ls' C hO hI hu hv hP hD hS h' T hT X
  refine ⟨t, ?_, b⟩
  have hexec := C.1
  have hb := C.2.1
  jvm_step X.here [X.here.top, ↓top_set X.here.top, hexec, hb, hd, e']
  exact a
theorem rx_astore_n {j : Fin 4} {i : Nat} {x : Nat} (hd : decode cc pc = .ok (.astore_n j, 1)) (hi : (j : Nat) = i) (hn : i < nL) (k : RX w d cu su mc ms cc own nm nL ret Z (pc + 1) ((i, .ref x) :: lv) st ws l) : RX w d cu su mc ms cc own nm nL ret Z pc lv (.ref x :: st) ws l := by
  intro p l0 e s m args below meth c H locs ls C hO hI hu hv hP hD hS hl
  subst hi
  obtain ⟨ls', e', h'⟩ := bw_store (v := .ref x) hl hn rfl
  intro T hT X
  obtain ⟨t, a, b⟩ := k p l0 e s m args below meth c H locs ls' C hO hI hu hv hP hD hS h' T hT X
  refine ⟨t, ?_, b⟩
  have hexec := C.1
  have hb := C.2.1
  jvm_step X.here [X.here.top, ↓top_set X.here.top, hexec, hb, hd, e', Value.isRef]
  exact a
theorem rx_inc {i : Nat} {n : Int} {x v : Int32} (hd : decode cc pc = .ok (.iinc i n, 3)) (hx : lv.lookup i = some (.int x)) (hv0 : x + Int32.ofInt n = v) (hn : i < nL) (k : RX w d cu su mc ms cc own nm nL ret Z (pc + 3) ((i, .int v) :: lv) st ws l) : RX w d cu su mc ms cc own nm nL ret Z pc lv st ws l := by
  intro p l0 e s m args below meth c H locs ls C hO hI hu hv hP hD hS hl
  subst hv0
  have hg := (hl.2.2 _ _ hx).2
  obtain ⟨ls', e', h'⟩ := bw_store (v := .int (x + Int32.ofInt n)) hl hn rfl
  intro T hT X
  obtain ⟨t, a, b⟩ := k p l0 e s m args below meth c H locs ls' C hO hI hu hv hP hD hS h' T hT X
  refine ⟨t, ?_, b⟩
  have hexec := C.1
  have hb := C.2.1
  jvm_step X.here [X.here.top, ↓top_set X.here.top, hexec, hb, hd, hg, e']
  exact a
theorem rx_dup {va : Value} (hd : decode cc pc = .ok (.dup, 1)) (hc : va.category = 1) (k : RX w d cu su mc ms cc own nm nL ret Z (pc + 1) lv (va :: va :: st) ws l) : RX w d cu su mc ms cc own nm nL ret Z pc lv (va :: st) ws l :=
  fun p l0 e s m args below meth c H locs ls C hO hI hu hv hP hD hS hl => lv_dup C.1 C.2.1 hd hc (k p l0 e s m args below meth c H locs ls C hO hI hu hv hP hD hS hl)
theorem rx_goto {off : Int} {tgt : Nat} (hd : decode cc pc = .ok (.goto off, 3)) (ht : (pc : Int) + off = (tgt : Int)) (k : RX w d cu su mc ms cc own nm nL ret Z tgt lv st ws l) : RX w d cu su mc ms cc own nm nL ret Z pc lv st ws l :=
  fun p l0 e s m args below meth c H locs ls C hO hI hu hv hP hD hS hl => lv_goto C.1 C.2.1 hd ht (k p l0 e s m args below meth c H locs ls C hO hI hu hv hP hD hS hl)
theorem rx_icmp_ge {x y : Int32} {off : Int} {tgt : Nat} (hd : decode cc pc = .ok (.if_icmp .ge off, 3)) (ht : (pc : Int) + off = (tgt : Int)) (kt : y ≤ x → RX w d cu su mc ms cc own nm nL ret Z tgt lv st ws l) (kf : ¬ y ≤ x → RX w d cu su mc ms cc own nm nL ret Z (pc + 3) lv st ws l) : RX w d cu su mc ms cc own nm nL ret Z pc lv (.int y :: .int x :: st) ws l :=
  fun p l0 e s m args below meth c H locs ls C hO hI hu hv hP hD hS hl => lv_icmp_ge C.1 C.2.1 hd ht (fun q => kt q p l0 e s m args below meth c H locs ls C hO hI hu hv hP hD hS hl) (fun q => kf q p l0 e s m args below meth c H locs ls C hO hI hu hv hP hD hS hl)
theorem rx_icmp_ne {x y : Int32} {off : Int} {tgt : Nat} (hd : decode cc pc = .ok (.if_icmp .ne off, 3)) (ht : (pc : Int) + off = (tgt : Int)) (kt : ¬ x = y → RX w d cu su mc ms cc own nm nL ret Z tgt lv st ws l) (kf : x = y → RX w d cu su mc ms cc own nm nL ret Z (pc + 3) lv st ws l) : RX w d cu su mc ms cc own nm nL ret Z pc lv (.int y :: .int x :: st) ws l :=
  fun p l0 e s m args below meth c H locs ls C hO hI hu hv hP hD hS hl => lv_icmp_ne C.1 C.2.1 hd ht (fun q => kt q p l0 e s m args below meth c H locs ls C hO hI hu hv hP hD hS hl) (fun q => kf q p l0 e s m args below meth c H locs ls C hO hI hu hv hP hD hS hl)
theorem rx_l {l' : va_W} (h : l = l') (k : RX w d cu su mc ms cc own nm nL ret Z pc lv st ws l') : RX w d cu su mc ms cc own nm nL ret Z pc lv st ws l := by subst h; exact k
theorem rx_ti {x y : Int32} (h : y = x) (k : RX w d cu su mc ms cc own nm nL ret Z pc lv (.int y :: st) ws l) : RX w d cu su mc ms cc own nm nL ret Z pc lv (.int x :: st) ws l := by subst h; exact k
theorem rx_cs {cu' su' : Nat} (h1 : cu = cu') (h2 : su = su') (k : RX w d cu' su' mc ms cc own nm nL ret Z pc lv st ws l) : RX w d cu su mc ms cc own nm nL ret Z pc lv st ws l := by subst h1; subst h2; exact k
theorem rx_obj {idx a : Nat} (hd : decode cc pc = .ok (.invokespecial idx, 3)) (h1 : Cond.methodLink own idx Lib.objectInit ∈ lw_gd) (h2 : Cond.instanceMethod Lib.objectInit ∈ lw_gd) (h3 : Cond.code Lib.objectInit ⟨#[0xb1]⟩ 1 none ∈ lw_gd) (hdd : 1 ≤ d) (hst : (st.map fun v => v.category).sum ≤ 8) (k : RX w d cu su mc ms cc own nm nL ret Z (pc + 3) lv st ws l) : RX w d cu su mc ms cc own nm nL ret Z pc lv (.ref a :: st) ws l := by
  intro p l0 e s m args below meth c H locs ls C hO hI hu hv hP hD hS hl
  have hts := C.2.2.2.2.1
  refine W.objInit C.1 C.2.1 C.2.2.2.1 (hts _ h1) (hts _ h2) (hts _ h3) rfl (by rw [C.2.2.1]; exact hl.1) rfl hd hdd ?_ (k p l0 e s m args below meth c H locs ls C hO hI hu hv hP hD hS hl)
  show 2 * 0 + _ + 12 ≤ 40 * d
  omega
def bw_NW (own : String) (idx ci : Nat) (fs : List Value) : Prop := ∃ (C : String) (T : u_T) (N : Nat) (t : Nat → FieldType), vwCl[ci]? = some (C, T, N) ∧ N = fs.length ∧ (∀ x ∈ u_ws C T N, x ∈ lw_gd) ∧ (∀ k, k < N → parseFieldDescriptor (T k).2.2.1 = some (t k)) ∧ Cond.classLink own idx C ∈ lw_gd ∧ Cond.instantiable C N ∈ lw_gd ∧ Cond.initialized C ∈ lw_gd ∧ ∀ j, j < N → defaultValue (t j) = vp_V fs j
theorem rx_new {idx ci : Nat} {fs : List Value} (hd : decode cc pc = .ok (.new idx, 3)) (hw : bw_NW own idx ci fs) (h1 : cu + 1 ≤ mc) (h2 : su + fs.length ≤ ms) (k : ∀ q : Nat, RX w d (cu + 1) (su + fs.length) mc ms cc own nm nL ret Z (pc + 3) lv (.ref q :: st) ws (l ++ [(q, .inr (ci, fs))])) : RX w d cu su mc ms cc own nm nL ret Z pc lv st ws l := by
  intro p l0 e s m args below meth c H locs ls C hO hI hu hv hP hD hS hl
  have hts := C.2.2.2.2.1
  obtain ⟨Cn, T, N, t, e1, e2, e3, e4, e5, e6, e7, e8⟩ := hw
  subst e2
  refine va_new C.1 C.2.1 hts e3 t e4 C.2.2.2.1 (hts _ e5) (hts _ e6) (hts _ e7) C.2.2.2.2.2.2.2.1 hP hD hS (fun q hq => Nat.le_trans C.2.2.2.2.2.2.2.2.1 hq) e1 e8 h1 h2 hd (fun q H1 hP1 hD1 hS1 => ?_)
  rw [List.append_assoc] at hP1 hD1
  exact k q p l0 e s m args below meth c H1 locs ls C hO hI h1 h2 hP1 hD1 hS1 hl
theorem rx_newa {atype : ArrayType} {ty : FieldType} {n : Int32} {N' t : Nat} {a0 : vp_A} (hd : decode cc pc = .ok (.newarray atype, 2)) (harr : Cond.arrayClass (newarray.typeOf atype) ∈ lw_gd) (hty : newarray.typeOf atype = ty) (hra : ∀ (U : State) (c0 : ClassId), va_RA U c0 ty → U.vm.findClass ("[" ++ ty.toString) = some c0) (ht : (bw_T w)[t]? = some (bw_ca w t, ty)) (ha : ∀ cA : ClassId, vp_cell cA a0 = arrV cA N' (fun _ => defaultValue ty)) (hn : ¬ n < 0) (hN : n.toNatClampNeg = N') (hbytes : N' * componentBytes ty ≤ 536870912) (h1 : cu + 1 ≤ mc) (h2 : su + N' ≤ ms) (k : ∀ q : Nat, RX w d (cu + 1) (su + N') mc ms cc own nm nL ret Z (pc + 2) lv (.ref q :: st) ws (l ++ [(q, .inl (bw_ca w t, a0))])) : RX w d cu su mc ms cc own nm nL ret Z pc lv (.int n :: st) ws l := by
  intro p l0 e s m args below meth c H locs ls C hO hI hu hv hP hD hS hl
  have hts := C.2.2.2.2.1
  have hK := C.2.2.2.2.2.2.2.1
  refine va_newa C.1 C.2.1 (hts _ harr) hty hK hP hD hS (fun q hq => Nat.le_trans C.2.2.2.2.2.2.2.2.1 hq) ha hn hN hbytes h1 h2 hd (fun q cA H1 hK1 hP1 hD1 hS1 => ?_)
  have e1 := hra _ _ (hK1.2 (bw_T w).length (cA, ty) (by rw [List.getElem?_append_right (Nat.le_refl _), Nat.sub_self]; rfl)).2
  have e2 := hra _ _ (hK.2 t _ ht).2
  have e3 : cA = bw_ca w t := Option.some.inj (e1.symm.trans e2)
  subst e3
  rw [List.append_assoc] at hP1 hD1
  exact k q p l0 e s m args below meth c H1 locs ls C hO hI h1 h2 hP1 hD1 hS1 hl
theorem rx_newi {n : Int32} {N' : Nat} (hd : decode cc pc = .ok (.newarray .int, 2)) (harr : Cond.arrayClass .int ∈ lw_gd) (hn : ¬ n < 0) (hN : n.toNatClampNeg = N') (hb9 : N' ≤ 100000) (h1 : cu + 1 ≤ mc) (h2 : su + N' ≤ ms) (k : ∀ q : Nat, RX w d (cu + 1) (su + N') mc ms cc own nm nL ret Z (pc + 2) lv (.ref q :: st) ws (l ++ [(q, .inl (bw_ca w 0, N', .inl (fun _ => 0)))])) : RX w d cu su mc ms cc own nm nL ret Z pc lv (.int n :: st) ws l := rx_newa (t := 0) (ty := .int) (a0 := (N', .inl (fun _ => 0))) hd harr rfl (fun _ _ h => h) rfl (fun _ => rfl) hn hN (by show N' * 4 ≤ 536870912; omega) h1 h2 k
theorem rx_newz {n : Int32} {N' : Nat} (hd : decode cc pc = .ok (.newarray .boolean, 2)) (harr : Cond.arrayClass .boolean ∈ lw_gd) (hn : ¬ n < 0) (hN : n.toNatClampNeg = N') (hb9 : N' ≤ 100000) (h1 : cu + 1 ≤ mc) (h2 : su + N' ≤ ms) (k : ∀ q : Nat, RX w d (cu + 1) (su + N') mc ms cc own nm nL ret Z (pc + 2) lv (.ref q :: st) ws (l ++ [(q, .inl (bw_ca w 1, N', .inl (fun _ => 0)))])) : RX w d cu su mc ms cc own nm nL ret Z pc lv (.int n :: st) ws l := rx_newa (t := 1) (ty := .boolean) (a0 := (N', .inl (fun _ => 0))) hd harr rfl (fun _ _ h => h) rfl (fun _ => rfl) hn hN (by show N' * 1 ≤ 536870912; omega) h1 h2 k
theorem rx_newc {n : Int32} {N' : Nat} (hd : decode cc pc = .ok (.newarray .char, 2)) (harr : Cond.arrayClass .char ∈ lw_gd) (hn : ¬ n < 0) (hN : n.toNatClampNeg = N') (hb9 : N' ≤ 100000) (h1 : cu + 1 ≤ mc) (h2 : su + N' ≤ ms) (k : ∀ q : Nat, RX w d (cu + 1) (su + N') mc ms cc own nm nL ret Z (pc + 2) lv (.ref q :: st) ws (l ++ [(q, .inl (bw_ca w 2, N', .inl (fun _ => 0)))])) : RX w d cu su mc ms cc own nm nL ret Z pc lv (.int n :: st) ws l := rx_newa (t := 2) (ty := .char) (a0 := (N', .inl (fun _ => 0))) hd harr rfl (fun _ _ h => h) rfl (fun _ => rfl) hn hN (by show N' * 2 ≤ 536870912; omega) h1 h2 k
theorem rx_newq {idx t : Nat} {Cn : String} {n : Int32} {N' : Nat} (hd : decode cc pc = .ok (.anewarray idx, 3)) (hcl : Cond.classLink own idx Cn ∈ lw_gd) (hao : ∀ U, bw_AOs U → va_AO Cn U) (ht : (bw_T w)[t]? = some (bw_ca w t, .object Cn)) (hn : ¬ n < 0) (hN : n.toNatClampNeg = N') (hb9 : N' ≤ 100000) (h1 : cu + 1 ≤ mc) (h2 : su + N' ≤ ms) (k : ∀ q : Nat, RX w d (cu + 1) (su + N') mc ms cc own nm nL ret Z (pc + 3) lv (.ref q :: st) ws (l ++ [(q, .inl (bw_ca w t, N', .inr (.inr (.inr (.inr (fun _ => none))))))])) : RX w d cu su mc ms cc own nm nL ret Z pc lv (.int n :: st) ws l := by
  intro p l0 e s m args below meth c H locs ls C hO hI hu hv hP hD hS hl
  have hts := C.2.2.2.2.1
  have hK := C.2.2.2.2.2.2.2.1
  refine va_newq C.1 C.2.1 C.2.2.2.1 (hts _ hcl) (hao _ hO) hK hP hD hS (fun q hq => Nat.le_trans C.2.2.2.2.2.2.2.2.1 hq) hn hN (by omega) h1 h2 hd (fun q cA H1 hK1 hP1 hD1 hS1 => ?_)
  obtain ⟨_, _, _, _, _, e1⟩ := (hK1.2 (bw_T w).length (cA, .object Cn) (by rw [List.getElem?_append_right (Nat.le_refl _), Nat.sub_self]; rfl)).2
  obtain ⟨_, _, _, _, _, e2⟩ := (hK.2 t _ ht).2
  have e3 : cA = bw_ca w t := Option.some.inj (e1.symm.trans e2)
  subst e3
  rw [List.append_assoc] at hP1 hD1
  exact k q p l0 e s m args below meth c H1 locs ls C hO hI h1 h2 hP1 hD1 hS1 hl
def bw_FF (ci j : Nat) (ty : FieldType) (own : String) : Prop := ∃ (C : String) (T : u_T) (N : Nat) (t : Nat → FieldType), vwCl[ci]? = some (C, T, N) ∧ (∀ k, k < N → parseFieldDescriptor (T k).2.2.1 = some (t k)) ∧ (∀ a, a < N → ∀ b, b < N → a ≠ b → (T a).2.1 ≠ (T b).2.1) ∧ (T j).2.2.2 = true ∧ t j = ty ∧ j < N ∧ (T j).1 = own
theorem rx_putF {a k j ci idx : Nat} {v : Value} {ty : FieldType} {fs : List Value} (hd : decode cc pc = .ok (.putfield idx, 3)) (hf : bw_FL own idx ci j) (hq : bw_FF ci j ty own) (hnm : nm = "<init>") (hk : l[k]? = some (a, .inr (ci, fs))) (hn : narrow ty v = v) (hfit : fits ty v = true) (hlen : j < fs.length) (kk : RX w d cu su mc ms cc own nm nL ret Z (pc + 3) lv st ws (l.set k (a, .inr (ci, fs.set j v)))) : RX w d cu su mc ms cc own nm nL ret Z pc lv (v :: .ref a :: st) ws l := by
  intro p l0 e s m args below meth c H locs ls C hO hI hu hv hP hD hS hl
  obtain ⟨Cn, T, N, h1, h2, h3, h4⟩ := hf
  obtain ⟨Cn2, T2, N2, t, g1, g2, g3, g4, g5, g6, g7⟩ := hq
  have e9 := Option.some.inj (h1.symm.trans g1)
  cases e9
  refine va_putF (v := v) (ty := ty) C.1 C.2.1 C.2.2.2.2.1 h3 t g2 g3 C.2.2.2.1 C.2.2.2.2.2.2.2.1 hP hD hS (ws.length + k) (bw_sl hk) h1 j h2 (C.2.2.2.2.1 _ h4) (fun _ h => h) g4 (hI.trans hnm) g7 (by rw [g2 j h2, g5]) hn hfit hlen hd (fun H1 locs1 hP1 hD1 hS1 => ?_)
  rw [bw_ss] at hP1 hD1
  exact kk p l0 e s m args below meth c H1 locs1 ls C hO hI hu hv hP1 hD1 hS1 hl
theorem rx_put {a k j ci idx : Nat} {v : Value} {ty : FieldType} {fs : List Value} (hd : decode cc pc = .ok (.putfield idx, 3)) (hf : bw_FL own idx ci j) (hq : bw_FP ci j ty) (hk : l[k]? = some (a, .inr (ci, fs))) (hn : narrow ty v = v) (hfit : fits ty v = true) (hlen : j < fs.length) (kk : RX w d cu su mc ms cc own nm nL ret Z (pc + 3) lv st ws (l.set k (a, .inr (ci, fs.set j v)))) : RX w d cu su mc ms cc own nm nL ret Z pc lv (v :: .ref a :: st) ws l := by
  intro p l0 e s m args below meth c H locs ls C hO hI hu hv hP hD hS hl
  obtain ⟨Cn, T, N, h1, h2, h3, h4⟩ := hf
  obtain ⟨Cn2, T2, N2, t, g1, g2, g3, g4, g5, g6⟩ := hq
  have e9 := Option.some.inj (h1.symm.trans g1)
  cases e9
  refine va_put (v := v) (ty := ty) C.1 C.2.1 C.2.2.2.2.1 h3 t g2 g3 C.2.2.2.1 C.2.2.2.2.2.2.2.1 hP hD hS (ws.length + k) (bw_sl hk) h1 j h2 (C.2.2.2.2.1 _ h4) (fun _ h => h) g4 (by rw [g2 j h2, g5]) hn hfit hlen hd (fun H1 locs1 hP1 hD1 hS1 => ?_)
  rw [bw_ss] at hP1 hD1
  exact kk p l0 e s m args below meth c H1 locs1 ls C hO hI hu hv hP1 hD1 hS1 hl
theorem rx_get {a k j ci idx : Nat} {v : Value} {fs : List Value} (hd : decode cc pc = .ok (.getfield idx, 3)) (hf : bw_FL own idx ci j) (hk : l[k]? = some (a, .inr (ci, fs))) (hv0 : fs[j]? = some v) (kk : RX w d cu su mc ms cc own nm nL ret Z (pc + 3) lv (v :: st) ws l) : RX w d cu su mc ms cc own nm nL ret Z pc lv (.ref a :: st) ws l := by
  intro p l0 e s m args below meth c H locs ls C hO hI hu hv hP hD hS hl
  obtain ⟨Cn, T, N, h1, h2, h3, h4⟩ := hf
  exact va_get C.1 C.2.1 C.2.2.2.2.1 h3 C.2.2.2.1 C.2.2.2.2.2.2.2.1 hP (ws.length + k) (bw_sl hk) h1 j h2 (C.2.2.2.2.1 _ h4) (fun _ h => h) hv0 hd (kk p l0 e s m args below meth c H locs ls C hO hI hu hv hP hD hS hl)
theorem rx_iast {a k n : Nat} {i x : Int32} {f : Nat → Int32} (hd : decode cc pc = .ok (.iastore, 1)) (hk : l[k]? = some (a, .inl (bw_ca w 0, n, .inl f))) (hin : vp_in i n) (kk : RX w d cu su mc ms cc own nm nL ret Z (pc + 1) lv st ws (l.set k (a, .inl (bw_ca w 0, n, .inl (upd f i.toNatClampNeg x))))) : RX w d cu su mc ms cc own nm nL ret Z pc lv (.int x :: .int i :: .ref a :: st) ws l := by
  intro p l0 e s m args below meth c H locs ls C hO hI hu hv hP hD hS hl
  refine va_iast C.1 C.2.1 C.2.2.2.2.2.2.2.1 hP hD hS (ws.length + k) 0 (bw_sl hk) rfl hin hd (fun H1 locs1 hP1 hD1 hS1 => ?_)
  rw [bw_ss] at hP1 hD1
  exact kk p l0 e s m args below meth c H1 locs1 ls C hO hI hu hv hP1 hD1 hS1 hl
theorem rx_cast {a k n : Nat} {i x : Int32} {f : Nat → Int32} (hd : decode cc pc = .ok (.castore, 1)) (hk : l[k]? = some (a, .inl (bw_ca w 2, n, .inl f))) (hin : vp_in i n) (kk : RX w d cu su mc ms cc own nm nL ret Z (pc + 1) lv st ws (l.set k (a, .inl (bw_ca w 2, n, .inl (upd f i.toNatClampNeg (vp_nar .char x)))))) : RX w d cu su mc ms cc own nm nL ret Z pc lv (.int x :: .int i :: .ref a :: st) ws l := by
  intro p l0 e s m args below meth c H locs ls C hO hI hu hv hP hD hS hl
  refine va_cast C.1 C.2.1 C.2.2.2.2.2.2.2.1 hP hD hS (ws.length + k) 2 (bw_sl hk) rfl hin hd (fun H1 locs1 hP1 hD1 hS1 => ?_)
  rw [bw_ss] at hP1 hD1
  exact kk p l0 e s m args below meth c H1 locs1 ls C hO hI hu hv hP1 hD1 hS1 hl
theorem rx_aast {a k kv n t ci v : Nat} {r : vw_C} {i : Int32} {vs : List Value} {f : Nat → Option Nat} (hd : decode cc pc = .ok (.aastore, 1)) (hk : l[k]? = some (a, .inl (bw_ca w t, n, .inr (.inr (.inr (.inr f)))))) (ht : (bw_T w)[t]? = some (bw_ca w t, .object r.1)) (hkv : l[kv]? = some (v, .inr (ci, vs))) (hc : vwCl[ci]? = some r) (hin : vp_in i n) (kk : RX w d cu su mc ms cc own nm nL ret Z (pc + 1) lv st ws (l.set k (a, .inl (bw_ca w t, n, .inr (.inr (.inr (.inr (va_up f i.toNatClampNeg (some v))))))))) : RX w d cu su mc ms cc own nm nL ret Z pc lv (.ref v :: .int i :: .ref a :: st) ws l := by
  intro p l0 e s m args below meth c H locs ls C hO hI hu hv hP hD hS hl
  refine va_astq (r := r) C.1 C.2.1 C.2.2.2.2.2.2.2.1 hP hD hS (ws.length + k) t (ws.length + kv) ci (bw_sl hk) ht (bw_sl hkv) hc hin hd (fun H1 locs1 hP1 hD1 hS1 => ?_)
  rw [bw_ss] at hP1 hD1
  exact kk p l0 e s m args below meth c H1 locs1 ls C hO hI hu hv hP1 hD1 hS1 hl
theorem rx_vret {X : va_W → Prop} (hd : decode cc pc = .ok (.return_, 1)) (hx : X (ws ++ l)) : RX w d mc ms mc ms cc own nm nL none (bw_ZX w none X) pc lv [] ws l := by
  intro p l0 e s m args below meth c H locs ls C hO hI hu hv hP hD hS hl
  exact W.vret C.1 C.2.1 C.2.2.2.2.2.1 (fun t ht hW => ⟨⟨_, rfl, rfl, ws ++ l, hx, by rw [ht]; exact hP, hD⟩, hS.F ht⟩) hS.2.2 hd C.2.2.2.2.2.2.1
def bw_MI (y : MethodName) (cc' : ByteArray) (nL' np : Nat) : Prop := Cond.code y cc' nL' none ∈ lw_gd ∧ Cond.initialized y.cls ∈ lw_gd ∧ Cond.instanceMethod y ∈ lw_gd ∧ (y.cls ≠ "java/lang/invoke/MethodHandle" ∧ y.cls ≠ "java/lang/invoke/VarHandle" ∧ (parseMethodDescriptor y.desc).map (fun d => d.parameters.length) = some np) ∧ y.name = "<init>" ∧ nL' ≤ 21
theorem bw_blindX {As : List Value} {ws0 : va_W} : FrameBlind (va_Pc As (bw_PreX w ws0)) := by
  intro a U g mk q
  obtain ⟨q0, qP, qK, qD, qz, qO, qA⟩ := q
  exact ⟨q0, qP, va_K.moved (u := U) (U := U.calling g mk a) (Vm.Alike.refl U.vm) qK, qD, qz, bw_Old.same (u := U) rfl qO, qA.moved (u := U) (U := U.calling g mk a) (Vm.Alike.refl U.vm)⟩
theorem bw_preX {s : State} {p : Program} {m : MethodId} {args : Array Value} {meth : Method} {c : Code} {H : Heap} {locs : List Loc} {As : List Value} {ws0 : va_W} (C : bw_CX w d mc ms cc own nL ret p s m args meth c) (hO : bw_AOs s) (hP : va_P (bw_d w) vwCl ws0 H) (hD : va_D (bw_A w) ws0) (hS : va_S (bw_A w) s.heap H locs) : ∀ U : State, U.heap = H → s.WarmedH U.vm → va_Pc As (bw_PreX w ws0) As.toArray U := by
  intro U hU hW
  have hz := C.2.2.2.2.2.2.2.2.1
  exact ⟨rfl, by rw [hU]; exact hP, va_K.moved hW.alike C.2.2.2.2.2.2.2.1, hD, by rw [hU]; exact Nat.le_trans hz hS.1, by rw [hU]; exact C.2.2.2.2.2.2.2.2.2.go hW hS.2.1, hO.moved hW.alike⟩
theorem rx_callI {d' mc' ms' a idx : Nat} {y : MethodName} {cc' : ByteArray} {nL' : Nat} {X : va_W → Prop} {l1 l2 : va_W} (hd : decode cc pc = .ok (.invokespecial idx, 3)) (hl0 : Cond.methodLink own idx y ∈ lw_gd) (hm : bw_MI y cc' nL' 0) (hl1 : l = l1 ++ l2) (hc : CtX w d' mc' ms' y cc' nL' none [.ref a] ((ws ++ l1) ++ l2) (bw_ZX w none X)) (hdd : d' + 1 ≤ d) (h1 : cu + mc' ≤ mc) (h2 : su + ms' ≤ ms) (hst : (st.map fun v => v.category).sum ≤ 8)
    (kk : ∀ ws1, X ws1 → ∃ l', ws1 = ws ++ l' ∧ RX w d (cu + mc') (su + ms') mc ms cc own nm nL ret Z (pc + 3) lv st ws l') : RX w d cu su mc ms cc own nm nL ret Z pc lv (.ref a :: st) ws l := by
  intro p l0 e s m args below meth c H locs ls C hO hI hu hv hP hD hS hl
  obtain ⟨m1, m2, m3, m5, m6, m8⟩ := hm
  have hts := C.2.2.2.2.1
  rw [hl1, ← List.append_assoc] at hP hD
  refine bw_back (w' := w) (va_runI (As := []) (rest := st) (own := own) (n := 0) (index := idx) (bytes := cc') (maxL := nL') ⟨C.1, C.2.1, C.2.2.1, C.2.2.2.1, hts⟩ (hc l0) ⟨callB_of 0 hts (bw_gi m1) rfl rfl rfl (hts _ m2) (hts _ hl0) m5 ⟨hdd, by show 8 + (nL' + 11) + 40 * d' ≤ 40 * d; omega⟩, m6, hts _ m3⟩ ⟨bw_blindX, bw_preX C hO hP hD hS⟩ rfl rfl hl.1 rfl (lv_room hst) hd ⟨h1, h2⟩) hS (fun r H1 locs1 hz hS1 => ?_)
  obtain ⟨rfl, ws1, hx1, hP1, hD1⟩ := hz
  obtain ⟨l', rfl, k⟩ := kk ws1 hx1
  exact k p l0 e s m args below meth c H1 locs1 ls C hO hI h1 h2 hP1 hD1 hS1 hl
theorem rx_callN {d' mc' ms' a idx : Nat} {host : String} {y : MethodName} {cc' : ByteArray} {nL' : Nat} {X : va_W → Prop} {l1 l2 : va_W} (hd : decode cc pc = .ok (.invokespecial idx, 3)) (hl0 : (own, idx, y, host) ∈ bw_nest) (hm : bw_MI y cc' nL' 0) (hl1 : l = l1 ++ l2) (hc : CtX w d' mc' ms' y cc' nL' none [.ref a] ((ws ++ l1) ++ l2) (bw_ZX w none X)) (hdd : d' + 1 ≤ d) (h1 : cu + mc' ≤ mc) (h2 : su + ms' ≤ ms) (hst : (st.map fun v => v.category).sum ≤ 8)
    (kk : ∀ ws1, X ws1 → ∃ l', ws1 = ws ++ l' ∧ RX w d (cu + mc') (su + ms') mc ms cc own nm nL ret Z (pc + 3) lv st ws l') : RX w d cu su mc ms cc own nm nL ret Z pc lv (.ref a :: st) ws l := by
  intro p l0 e s m args below meth c H locs ls C hO hI hu hv hP hD hS hl
  obtain ⟨m1, m2, m3, m5, m6, m8⟩ := hm
  have hts := C.2.2.2.2.1
  rw [hl1, ← List.append_assoc] at hP hD
  refine bw_back (w' := w) (va_runIN (As := []) (rest := st) (own := own) (host := host) (n := 0) (index := idx) (bytes := cc') (maxL := nL') ⟨C.1, C.2.1, C.2.2.1, C.2.2.2.1, hts⟩ (hc l0) ⟨va_cnB 0 hts (bw_gi m1) rfl rfl rfl (C.2.2.2.2.2.2.2.2.2.2.2.2.2.2.2.2 _ hl0) (hts _ m2) m5 ⟨hdd, by show 8 + (nL' + 11) + 40 * d' ≤ 40 * d; omega⟩, m6, hts _ m3⟩ ⟨bw_blindX, bw_preX C hO hP hD hS⟩ rfl rfl hl.1 rfl (lv_room hst) hd ⟨h1, h2⟩) hS (fun r H1 locs1 hz hS1 => ?_)
  obtain ⟨rfl, ws1, hx1, hP1, hD1⟩ := hz
  obtain ⟨l', rfl, k⟩ := kk ws1 hx1
  exact k p l0 e s m args below meth c H1 locs1 ls C hO hI h1 h2 hP1 hD1 hS1 hl
end RXS
theorem ob_i : Cond.instanceMethod Lib.objectInit ∈ lw_gd := gd_of 89 (by decide +kernel) rfl
theorem ob_c : Cond.code Lib.objectInit ⟨#[0xb1]⟩ 1 none ∈ lw_gd := gd_of 90 (by decide +kernel) rfl
theorem ac_int : Cond.arrayClass .int ∈ lw_gd := gd_of 127 (by decide +kernel) rfl
theorem ac_boolean : Cond.arrayClass .boolean ∈ lw_gd := gd_of 128 (by decide +kernel) rfl
theorem ac_char : Cond.arrayClass .char ∈ lw_gd := gd_of 1309 (by decide +kernel) rfl
theorem lo_RX9_1 : Cond.methodLink RX9 1 Lib.objectInit ∈ lw_gd := gd_of 88 (by decide +kernel) rfl
theorem lo_RX0_3 : Cond.methodLink RX0 3 Lib.objectInit ∈ lw_gd := gd_of 105 (by decide +kernel) rfl
theorem lo_RX1_1 : Cond.methodLink RX1 1 Lib.objectInit ∈ lw_gd := gd_of 946 (by decide +kernel) rfl
theorem lo_RX2_3 : Cond.methodLink RX2 3 Lib.objectInit ∈ lw_gd := gd_of 206 (by decide +kernel) rfl
theorem lo_RX3_3 : Cond.methodLink RX3 3 Lib.objectInit ∈ lw_gd := gd_of 287 (by decide +kernel) rfl
theorem lo_RX4_3 : Cond.methodLink RX4 3 Lib.objectInit ∈ lw_gd := gd_of 338 (by decide +kernel) rfl
theorem lo_RX5_3 : Cond.methodLink RX5 3 Lib.objectInit ∈ lw_gd := gd_of 355 (by decide +kernel) rfl
theorem lo_RX6_3 : Cond.methodLink RX6 3 Lib.objectInit ∈ lw_gd := gd_of 96 (by decide +kernel) rfl
theorem lo_RX7_3 : Cond.methodLink RX7 3 Lib.objectInit ∈ lw_gd := gd_of 293 (by decide +kernel) rfl
theorem lo_RX8_3 : Cond.methodLink RX8 3 Lib.objectInit ∈ lw_gd := gd_of 268 (by decide +kernel) rfl
theorem lo_RX10_1 : Cond.methodLink RX10 1 Lib.objectInit ∈ lw_gd := gd_of 1142 (by decide +kernel) rfl
theorem df_0 : ∀ j, j < 4 → defaultValue (tyX0 j) = vp_V [.int 0, .int 0, .int 0, .int 0] j := by
  intro j hj
  rcases (show j = 0 ∨ j = 1 ∨ j = 2 ∨ j = 3 by omega) with rfl | rfl | rfl | rfl <;> rfl
theorem df_1 : ∀ j, j < 4 → defaultValue (tyX1 j) = vp_V [.int 0, .int 0, .null, .null] j := by
  intro j hj
  rcases (show j = 0 ∨ j = 1 ∨ j = 2 ∨ j = 3 by omega) with rfl | rfl | rfl | rfl <;> rfl
theorem df_2 : ∀ j, j < 16 → defaultValue (tyX2 j) = vp_V [.int 0, .null, .null, .null, .int 0, .int 0, .int 0, .null, .null, .int 0, .null, .null, .null, .null, .int 0, .null] j := by
  intro j hj
  rcases (show j = 0 ∨ j = 1 ∨ j = 2 ∨ j = 3 ∨ j = 4 ∨ j = 5 ∨ j = 6 ∨ j = 7 ∨ j = 8 ∨ j = 9 ∨ j = 10 ∨ j = 11 ∨ j = 12 ∨ j = 13 ∨ j = 14 ∨ j = 15 by omega) with rfl | rfl | rfl | rfl | rfl | rfl | rfl | rfl | rfl | rfl | rfl | rfl | rfl | rfl | rfl | rfl <;> rfl
theorem df_3 : ∀ j, j < 5 → defaultValue (tyX3 j) = vp_V [.null, .null, .int 0, .int 0, .int 0] j := by
  intro j hj
  rcases (show j = 0 ∨ j = 1 ∨ j = 2 ∨ j = 3 ∨ j = 4 by omega) with rfl | rfl | rfl | rfl | rfl <;> rfl
theorem df_4 : ∀ j, j < 3 → defaultValue (tyX4 j) = vp_V [.int 0, .int 0, .null] j := by
  intro j hj
  rcases (show j = 0 ∨ j = 1 ∨ j = 2 by omega) with rfl | rfl | rfl <;> rfl
theorem df_5 : ∀ j, j < 4 → defaultValue (tyX5 j) = vp_V [.int 0, .null, .null, .int 0] j := by
  intro j hj
  rcases (show j = 0 ∨ j = 1 ∨ j = 2 ∨ j = 3 by omega) with rfl | rfl | rfl | rfl <;> rfl
theorem df_6 : ∀ j, j < 15 → defaultValue (tyX6 j) = vp_V [.int 0, .null, .null, .null, .null, .int 0, .int 0, .int 0, .int 0, .int 0, .null, .int 0, .null, .int 0, .null] j := by
  intro j hj
  rcases (show j = 0 ∨ j = 1 ∨ j = 2 ∨ j = 3 ∨ j = 4 ∨ j = 5 ∨ j = 6 ∨ j = 7 ∨ j = 8 ∨ j = 9 ∨ j = 10 ∨ j = 11 ∨ j = 12 ∨ j = 13 ∨ j = 14 by omega) with rfl | rfl | rfl | rfl | rfl | rfl | rfl | rfl | rfl | rfl | rfl | rfl | rfl | rfl | rfl <;> rfl
theorem df_7 : ∀ j, j < 5 → defaultValue (tyX7 j) = vp_V [.null, .int 0, .int 0, .int 0, .int 0] j := by
  intro j hj
  rcases (show j = 0 ∨ j = 1 ∨ j = 2 ∨ j = 3 ∨ j = 4 by omega) with rfl | rfl | rfl | rfl | rfl <;> rfl
theorem df_8 : ∀ j, j < 4 → defaultValue (tyX8 j) = vp_V [.int 0, .null, .null, .null] j := by
  intro j hj
  rcases (show j = 0 ∨ j = 1 ∨ j = 2 ∨ j = 3 by omega) with rfl | rfl | rfl | rfl <;> rfl
theorem df_9 : ∀ j, j < 15 → defaultValue (tyX9 j) = vp_V [.null, .null, .int 0, .null, .null, .null, .null, .null, .null, .null, .int 0, .null, .null, .null, .null] j := by
  intro j hj
  rcases (show j = 0 ∨ j = 1 ∨ j = 2 ∨ j = 3 ∨ j = 4 ∨ j = 5 ∨ j = 6 ∨ j = 7 ∨ j = 8 ∨ j = 9 ∨ j = 10 ∨ j = 11 ∨ j = 12 ∨ j = 13 ∨ j = 14 by omega) with rfl | rfl | rfl | rfl | rfl | rfl | rfl | rfl | rfl | rfl | rfl | rfl | rfl | rfl | rfl <;> rfl
theorem df_10 : ∀ j, j < 55 → defaultValue (tyX10 j) = vp_V [.null, .null, .null, .int 0, .null, .null, .null, .int 0, .int 0, .null, .int 0, .null, .null, .int 0, .null, .null, .int 0, .int 0, .null, .null, .null, .null, .int 0, .null, .int 0, .null, .int 0, .int 0, .int 0, .int 0, .int 0, .int 0, .int 0, .null, .null, .null, .int 0, .int 0, .null, .int 0, .null, .null, .null, .null, .null, .null, .null, .null, .null, .null, .null, .null, .null, .null, .int 0] j := by
  intro j hj
  rcases (show j = 0 ∨ j = 1 ∨ j = 2 ∨ j = 3 ∨ j = 4 ∨ j = 5 ∨ j = 6 ∨ j = 7 ∨ j = 8 ∨ j = 9 ∨ j = 10 ∨ j = 11 ∨ j = 12 ∨ j = 13 ∨ j = 14 ∨ j = 15 ∨ j = 16 ∨ j = 17 ∨ j = 18 ∨ j = 19 ∨ j = 20 ∨ j = 21 ∨ j = 22 ∨ j = 23 ∨ j = 24 ∨ j = 25 ∨ j = 26 ∨ j = 27 ∨ j = 28 ∨ j = 29 ∨ j = 30 ∨ j = 31 ∨ j = 32 ∨ j = 33 ∨ j = 34 ∨ j = 35 ∨ j = 36 ∨ j = 37 ∨ j = 38 ∨ j = 39 ∨ j = 40 ∨ j = 41 ∨ j = 42 ∨ j = 43 ∨ j = 44 ∨ j = 45 ∨ j = 46 ∨ j = 47 ∨ j = 48 ∨ j = 49 ∨ j = 50 ∨ j = 51 ∨ j = 52 ∨ j = 53 ∨ j = 54 by omega) with rfl | rfl | rfl | rfl | rfl | rfl | rfl | rfl | rfl | rfl | rfl | rfl | rfl | rfl | rfl | rfl | rfl | rfl | rfl | rfl | rfl | rfl | rfl | rfl | rfl | rfl | rfl | rfl | rfl | rfl | rfl | rfl | rfl | rfl | rfl | rfl | rfl | rfl | rfl | rfl | rfl | rfl | rfl | rfl | rfl | rfl | rfl | rfl | rfl | rfl | rfl | rfl | rfl | rfl | rfl <;> rfl
theorem nw_RX9_7 : bw_NW RX9 7 6 [.int 0, .null, .null, .null, .null, .int 0, .int 0, .int 0, .int 0, .int 0, .null, .int 0, .null, .int 0, .null] := ⟨_, _, _, tyX6, rfl, rfl, inG6, tyX6_ok, gd_of 91 (by decide +kernel) rfl, gd_of 92 (by decide +kernel) rfl, gd_of 65 (by decide +kernel) rfl, df_6⟩
theorem ck_RX9_7 : Cond.classLink RX9 7 RX6 ∈ lw_gd := gd_of 91 (by decide +kernel) rfl
theorem nw_RX9_19 : bw_NW RX9 19 2 [.int 0, .null, .null, .null, .int 0, .int 0, .int 0, .null, .null, .int 0, .null, .null, .null, .null, .int 0, .null] := ⟨_, _, _, tyX2, rfl, rfl, inG2, tyX2_ok, gd_of 201 (by decide +kernel) rfl, gd_of 202 (by decide +kernel) rfl, gd_of 67 (by decide +kernel) rfl, df_2⟩
theorem ck_RX9_19 : Cond.classLink RX9 19 RX2 ∈ lw_gd := gd_of 201 (by decide +kernel) rfl
theorem nw_RX9_26 : bw_NW RX9 26 8 [.int 0, .null, .null, .null] := ⟨_, _, _, tyX8, rfl, rfl, inG8, tyX8_ok, gd_of 263 (by decide +kernel) rfl, gd_of 264 (by decide +kernel) rfl, gd_of 68 (by decide +kernel) rfl, df_8⟩
theorem ck_RX9_26 : Cond.classLink RX9 26 RX8 ∈ lw_gd := gd_of 263 (by decide +kernel) rfl
theorem nw_RX9_33 : bw_NW RX9 33 3 [.null, .null, .int 0, .int 0, .int 0] := ⟨_, _, _, tyX3, rfl, rfl, inG3, tyX3_ok, gd_of 282 (by decide +kernel) rfl, gd_of 283 (by decide +kernel) rfl, gd_of 69 (by decide +kernel) rfl, df_3⟩
theorem ck_RX9_33 : Cond.classLink RX9 33 RX3 ∈ lw_gd := gd_of 282 (by decide +kernel) rfl
theorem nw_RX9_45 : bw_NW RX9 45 4 [.int 0, .int 0, .null] := ⟨_, _, _, tyX4, rfl, rfl, inG4, tyX4_ok, gd_of 330 (by decide +kernel) rfl, gd_of 334 (by decide +kernel) rfl, gd_of 71 (by decide +kernel) rfl, df_4⟩
theorem ck_RX9_45 : Cond.classLink RX9 45 RX4 ∈ lw_gd := gd_of 330 (by decide +kernel) rfl
theorem nw_RX9_51 : bw_NW RX9 51 5 [.int 0, .null, .null, .int 0] := ⟨_, _, _, tyX5, rfl, rfl, inG5, tyX5_ok, gd_of 332 (by decide +kernel) rfl, gd_of 351 (by decide +kernel) rfl, gd_of 72 (by decide +kernel) rfl, df_5⟩
theorem ck_RX9_51 : Cond.classLink RX9 51 RX5 ∈ lw_gd := gd_of 332 (by decide +kernel) rfl
theorem nw_RX3_9 : bw_NW RX3 9 7 [.null, .int 0, .int 0, .int 0, .int 0] := ⟨_, _, _, tyX7, rfl, rfl, inG7, tyX7_ok, gd_of 288 (by decide +kernel) rfl, gd_of 289 (by decide +kernel) rfl, gd_of 70 (by decide +kernel) rfl, df_7⟩
theorem ck_RX3_9 : Cond.classLink RX3 9 RX7 ∈ lw_gd := gd_of 288 (by decide +kernel) rfl
theorem nw_RX3_49 : bw_NW RX3 49 1 [.int 0, .int 0, .null, .null] := ⟨_, _, _, tyX1, rfl, rfl, inG1, tyX1_ok, gd_of 929 (by decide +kernel) rfl, gd_of 930 (by decide +kernel) rfl, gd_of 77 (by decide +kernel) rfl, df_1⟩
theorem ck_RX3_49 : Cond.classLink RX3 49 RX1 ∈ lw_gd := gd_of 929 (by decide +kernel) rfl
theorem nw_RX5_9 : bw_NW RX5 9 0 [.int 0, .int 0, .int 0, .int 0] := ⟨_, _, _, tyX0, rfl, rfl, inG0, tyX0_ok, gd_of 356 (by decide +kernel) rfl, gd_of 101 (by decide +kernel) rfl, gd_of 66 (by decide +kernel) rfl, df_0⟩
theorem ck_RX5_9 : Cond.classLink RX5 9 RX0 ∈ lw_gd := gd_of 356 (by decide +kernel) rfl
theorem nw_RX5_18 : bw_NW RX5 18 4 [.int 0, .int 0, .null] := ⟨_, _, _, tyX4, rfl, rfl, inG4, tyX4_ok, gd_of 358 (by decide +kernel) rfl, gd_of 334 (by decide +kernel) rfl, gd_of 71 (by decide +kernel) rfl, df_4⟩
theorem ck_RX5_18 : Cond.classLink RX5 18 RX4 ∈ lw_gd := gd_of 358 (by decide +kernel) rfl
theorem nw_RX6_38 : bw_NW RX6 38 0 [.int 0, .int 0, .int 0, .int 0] := ⟨_, _, _, tyX0, rfl, rfl, inG0, tyX0_ok, gd_of 97 (by decide +kernel) rfl, gd_of 101 (by decide +kernel) rfl, gd_of 66 (by decide +kernel) rfl, df_0⟩
theorem ck_RX6_38 : Cond.classLink RX6 38 RX0 ∈ lw_gd := gd_of 97 (by decide +kernel) rfl
theorem nw_RX6_47 : bw_NW RX6 47 1 [.int 0, .int 0, .null, .null] := ⟨_, _, _, tyX1, rfl, rfl, inG1, tyX1_ok, gd_of 99 (by decide +kernel) rfl, gd_of 930 (by decide +kernel) rfl, gd_of 77 (by decide +kernel) rfl, df_1⟩
theorem ck_RX6_47 : Cond.classLink RX6 47 RX1 ∈ lw_gd := gd_of 99 (by decide +kernel) rfl
theorem nw_L_7 : bw_NW "BookBoardsLaw" 7 9 [.null, .null, .int 0, .null, .null, .null, .null, .null, .null, .null, .int 0, .null, .null, .null, .null] := ⟨_, _, _, tyX9, rfl, rfl, inG9, tyX9_ok, gd_of 83 (by decide +kernel) rfl, gd_of 84 (by decide +kernel) rfl, gd_of 64 (by decide +kernel) rfl, df_9⟩
theorem nw_L_10 : bw_NW "BookBoardsLaw" 10 10 [.null, .null, .null, .int 0, .null, .null, .null, .int 0, .int 0, .null, .int 0, .null, .null, .int 0, .null, .null, .int 0, .int 0, .null, .null, .null, .null, .int 0, .null, .int 0, .null, .int 0, .int 0, .int 0, .int 0, .int 0, .int 0, .int 0, .null, .null, .null, .int 0, .int 0, .null, .int 0, .null, .null, .null, .null, .null, .null, .null, .null, .null, .null, .null, .null, .null, .null, .int 0] := ⟨_, _, _, tyX10, rfl, rfl, inG10, tyX10_ok, gd_of 1137 (by decide +kernel) rfl, gd_of 1138 (by decide +kernel) rfl, gd_of 73 (by decide +kernel) rfl, df_10⟩
theorem ff_1_0 : bw_FF 1 0 (.int) RX1 := ⟨_, _, _, tyX1, rfl, tyX1_ok, nmX1, rfl, rfl, by decide, rfl⟩
theorem ff_1_1 : bw_FF 1 1 (.int) RX1 := ⟨_, _, _, tyX1, rfl, tyX1_ok, nmX1, rfl, rfl, by decide, rfl⟩
theorem ff_1_2 : bw_FF 1 2 (.array .int) RX1 := ⟨_, _, _, tyX1, rfl, tyX1_ok, nmX1, rfl, rfl, by decide, rfl⟩
theorem ff_1_3 : bw_FF 1 3 (.array .int) RX1 := ⟨_, _, _, tyX1, rfl, tyX1_ok, nmX1, rfl, rfl, by decide, rfl⟩
theorem ff_2_1 : bw_FF 2 1 (.array .int) RX2 := ⟨_, _, _, tyX2, rfl, tyX2_ok, nmX2, rfl, rfl, by decide, rfl⟩
theorem ff_2_2 : bw_FF 2 2 (.array .int) RX2 := ⟨_, _, _, tyX2, rfl, tyX2_ok, nmX2, rfl, rfl, by decide, rfl⟩
theorem ff_2_3 : bw_FF 2 3 (.array .boolean) RX2 := ⟨_, _, _, tyX2, rfl, tyX2_ok, nmX2, rfl, rfl, by decide, rfl⟩
theorem ff_2_8 : bw_FF 2 8 (.array .int) RX2 := ⟨_, _, _, tyX2, rfl, tyX2_ok, nmX2, rfl, rfl, by decide, rfl⟩
theorem ff_2_10 : bw_FF 2 10 (.array .int) RX2 := ⟨_, _, _, tyX2, rfl, tyX2_ok, nmX2, rfl, rfl, by decide, rfl⟩
theorem ff_2_11 : bw_FF 2 11 (.array .int) RX2 := ⟨_, _, _, tyX2, rfl, tyX2_ok, nmX2, rfl, rfl, by decide, rfl⟩
theorem ff_2_12 : bw_FF 2 12 (.array .int) RX2 := ⟨_, _, _, tyX2, rfl, tyX2_ok, nmX2, rfl, rfl, by decide, rfl⟩
theorem ff_2_13 : bw_FF 2 13 (.array .int) RX2 := ⟨_, _, _, tyX2, rfl, tyX2_ok, nmX2, rfl, rfl, by decide, rfl⟩
theorem ff_2_15 : bw_FF 2 15 (.array .int) RX2 := ⟨_, _, _, tyX2, rfl, tyX2_ok, nmX2, rfl, rfl, by decide, rfl⟩
theorem ff_3_0 : bw_FF 3 0 (.object "BookBoards$Tape") RX3 := ⟨_, _, _, tyX3, rfl, tyX3_ok, nmX3, rfl, rfl, by decide, rfl⟩
theorem ff_3_1 : bw_FF 3 1 (.array .int) RX3 := ⟨_, _, _, tyX3, rfl, tyX3_ok, nmX3, rfl, rfl, by decide, rfl⟩
theorem ff_4_2 : bw_FF 4 2 (.array .int) RX4 := ⟨_, _, _, tyX4, rfl, tyX4_ok, nmX4, rfl, rfl, by decide, rfl⟩
theorem ff_5_1 : bw_FF 5 1 (.object "BookBoards$Board") RX5 := ⟨_, _, _, tyX5, rfl, tyX5_ok, nmX5, rfl, rfl, by decide, rfl⟩
theorem ff_5_2 : bw_FF 5 2 (.object "BookBoards$Sheet") RX5 := ⟨_, _, _, tyX5, rfl, tyX5_ok, nmX5, rfl, rfl, by decide, rfl⟩
theorem ff_6_1 : bw_FF 6 1 (.array .int) RX6 := ⟨_, _, _, tyX6, rfl, tyX6_ok, nmX6, rfl, rfl, by decide, rfl⟩
theorem ff_6_2 : bw_FF 6 2 (.array .int) RX6 := ⟨_, _, _, tyX6, rfl, tyX6_ok, nmX6, rfl, rfl, by decide, rfl⟩
theorem ff_6_3 : bw_FF 6 3 (.array .int) RX6 := ⟨_, _, _, tyX6, rfl, tyX6_ok, nmX6, rfl, rfl, by decide, rfl⟩
theorem ff_6_4 : bw_FF 6 4 (.array .boolean) RX6 := ⟨_, _, _, tyX6, rfl, tyX6_ok, nmX6, rfl, rfl, by decide, rfl⟩
theorem ff_6_10 : bw_FF 6 10 (.array (.object "BookBoards$Board")) RX6 := ⟨_, _, _, tyX6, rfl, tyX6_ok, nmX6, rfl, rfl, by decide, rfl⟩
theorem ff_6_12 : bw_FF 6 12 (.array .int) RX6 := ⟨_, _, _, tyX6, rfl, tyX6_ok, nmX6, rfl, rfl, by decide, rfl⟩
theorem ff_6_14 : bw_FF 6 14 (.array (.object "BookBoards$Law")) RX6 := ⟨_, _, _, tyX6, rfl, tyX6_ok, nmX6, rfl, rfl, by decide, rfl⟩
theorem ff_7_0 : bw_FF 7 0 (.array .int) RX7 := ⟨_, _, _, tyX7, rfl, tyX7_ok, nmX7, rfl, rfl, by decide, rfl⟩
theorem ff_8_1 : bw_FF 8 1 (.array .int) RX8 := ⟨_, _, _, tyX8, rfl, tyX8_ok, nmX8, rfl, rfl, by decide, rfl⟩
theorem ff_8_2 : bw_FF 8 2 (.array .int) RX8 := ⟨_, _, _, tyX8, rfl, tyX8_ok, nmX8, rfl, rfl, by decide, rfl⟩
theorem ff_9_0 : bw_FF 9 0 (.object "BookBoards$Stock") RX9 := ⟨_, _, _, tyX9, rfl, tyX9_ok, nmX9, rfl, rfl, by decide, rfl⟩
theorem ff_9_1 : bw_FF 9 1 (.object "BookBoards$Stock") RX9 := ⟨_, _, _, tyX9, rfl, tyX9_ok, nmX9, rfl, rfl, by decide, rfl⟩
theorem ff_9_3 : bw_FF 9 3 (.object "BookBoards$Plan") RX9 := ⟨_, _, _, tyX9, rfl, tyX9_ok, nmX9, rfl, rfl, by decide, rfl⟩
theorem ff_9_4 : bw_FF 9 4 (.object "BookBoards$Years") RX9 := ⟨_, _, _, tyX9, rfl, tyX9_ok, nmX9, rfl, rfl, by decide, rfl⟩
theorem ff_9_5 : bw_FF 9 5 (.object "BookBoards$Reader") RX9 := ⟨_, _, _, tyX9, rfl, tyX9_ok, nmX9, rfl, rfl, by decide, rfl⟩
theorem ff_9_6 : bw_FF 9 6 (.object "BookBoards$Tape") RX9 := ⟨_, _, _, tyX9, rfl, tyX9_ok, nmX9, rfl, rfl, by decide, rfl⟩
theorem ff_9_7 : bw_FF 9 7 (.array (.object "BookBoards$Sheet")) RX9 := ⟨_, _, _, tyX9, rfl, tyX9_ok, nmX9, rfl, rfl, by decide, rfl⟩
theorem ff_9_8 : bw_FF 9 8 (.array (.object "BookBoards$Slot")) RX9 := ⟨_, _, _, tyX9, rfl, tyX9_ok, nmX9, rfl, rfl, by decide, rfl⟩
theorem ff_9_9 : bw_FF 9 9 (.array .int) RX9 := ⟨_, _, _, tyX9, rfl, tyX9_ok, nmX9, rfl, rfl, by decide, rfl⟩
theorem ff_9_11 : bw_FF 9 11 (.array .int) RX9 := ⟨_, _, _, tyX9, rfl, tyX9_ok, nmX9, rfl, rfl, by decide, rfl⟩
theorem ff_9_12 : bw_FF 9 12 (.array .int) RX9 := ⟨_, _, _, tyX9, rfl, tyX9_ok, nmX9, rfl, rfl, by decide, rfl⟩
theorem ff_9_13 : bw_FF 9 13 (.array .int) RX9 := ⟨_, _, _, tyX9, rfl, tyX9_ok, nmX9, rfl, rfl, by decide, rfl⟩
theorem ff_9_14 : bw_FF 9 14 (.array .int) RX9 := ⟨_, _, _, tyX9, rfl, tyX9_ok, nmX9, rfl, rfl, by decide, rfl⟩
theorem ff_10_0 : bw_FF 10 0 (.array .int) RX10 := ⟨_, _, _, tyX10, rfl, tyX10_ok, nmX10, rfl, rfl, by decide, rfl⟩
theorem ff_10_1 : bw_FF 10 1 (.array .int) RX10 := ⟨_, _, _, tyX10, rfl, tyX10_ok, nmX10, rfl, rfl, by decide, rfl⟩
theorem ff_10_2 : bw_FF 10 2 (.array .int) RX10 := ⟨_, _, _, tyX10, rfl, tyX10_ok, nmX10, rfl, rfl, by decide, rfl⟩
theorem ff_10_4 : bw_FF 10 4 (.array .int) RX10 := ⟨_, _, _, tyX10, rfl, tyX10_ok, nmX10, rfl, rfl, by decide, rfl⟩
theorem ff_10_5 : bw_FF 10 5 (.array .int) RX10 := ⟨_, _, _, tyX10, rfl, tyX10_ok, nmX10, rfl, rfl, by decide, rfl⟩
theorem ff_10_6 : bw_FF 10 6 (.array .boolean) RX10 := ⟨_, _, _, tyX10, rfl, tyX10_ok, nmX10, rfl, rfl, by decide, rfl⟩
theorem ff_10_9 : bw_FF 10 9 (.array .int) RX10 := ⟨_, _, _, tyX10, rfl, tyX10_ok, nmX10, rfl, rfl, by decide, rfl⟩
theorem ff_10_11 : bw_FF 10 11 (.array .int) RX10 := ⟨_, _, _, tyX10, rfl, tyX10_ok, nmX10, rfl, rfl, by decide, rfl⟩
theorem ff_10_12 : bw_FF 10 12 (.array .int) RX10 := ⟨_, _, _, tyX10, rfl, tyX10_ok, nmX10, rfl, rfl, by decide, rfl⟩
theorem ff_10_14 : bw_FF 10 14 (.array .int) RX10 := ⟨_, _, _, tyX10, rfl, tyX10_ok, nmX10, rfl, rfl, by decide, rfl⟩
theorem ff_10_15 : bw_FF 10 15 (.array .int) RX10 := ⟨_, _, _, tyX10, rfl, tyX10_ok, nmX10, rfl, rfl, by decide, rfl⟩
theorem ff_10_18 : bw_FF 10 18 (.array .int) RX10 := ⟨_, _, _, tyX10, rfl, tyX10_ok, nmX10, rfl, rfl, by decide, rfl⟩
theorem ff_10_19 : bw_FF 10 19 (.array .int) RX10 := ⟨_, _, _, tyX10, rfl, tyX10_ok, nmX10, rfl, rfl, by decide, rfl⟩
theorem ff_10_20 : bw_FF 10 20 (.array .int) RX10 := ⟨_, _, _, tyX10, rfl, tyX10_ok, nmX10, rfl, rfl, by decide, rfl⟩
theorem ff_10_21 : bw_FF 10 21 (.array .int) RX10 := ⟨_, _, _, tyX10, rfl, tyX10_ok, nmX10, rfl, rfl, by decide, rfl⟩
theorem ff_10_23 : bw_FF 10 23 (.array .int) RX10 := ⟨_, _, _, tyX10, rfl, tyX10_ok, nmX10, rfl, rfl, by decide, rfl⟩
theorem ff_10_25 : bw_FF 10 25 (.array .int) RX10 := ⟨_, _, _, tyX10, rfl, tyX10_ok, nmX10, rfl, rfl, by decide, rfl⟩
theorem ff_10_33 : bw_FF 10 33 (.array .char) RX10 := ⟨_, _, _, tyX10, rfl, tyX10_ok, nmX10, rfl, rfl, by decide, rfl⟩
theorem ff_10_34 : bw_FF 10 34 (.array .int) RX10 := ⟨_, _, _, tyX10, rfl, tyX10_ok, nmX10, rfl, rfl, by decide, rfl⟩
theorem ff_10_35 : bw_FF 10 35 (.array .int) RX10 := ⟨_, _, _, tyX10, rfl, tyX10_ok, nmX10, rfl, rfl, by decide, rfl⟩
theorem ff_10_38 : bw_FF 10 38 (.array .int) RX10 := ⟨_, _, _, tyX10, rfl, tyX10_ok, nmX10, rfl, rfl, by decide, rfl⟩
theorem ff_10_40 : bw_FF 10 40 (.array .boolean) RX10 := ⟨_, _, _, tyX10, rfl, tyX10_ok, nmX10, rfl, rfl, by decide, rfl⟩
theorem ff_10_41 : bw_FF 10 41 (.array .int) RX10 := ⟨_, _, _, tyX10, rfl, tyX10_ok, nmX10, rfl, rfl, by decide, rfl⟩
theorem ff_10_42 : bw_FF 10 42 (.array .int) RX10 := ⟨_, _, _, tyX10, rfl, tyX10_ok, nmX10, rfl, rfl, by decide, rfl⟩
theorem ff_10_43 : bw_FF 10 43 (.array .int) RX10 := ⟨_, _, _, tyX10, rfl, tyX10_ok, nmX10, rfl, rfl, by decide, rfl⟩
theorem ff_10_44 : bw_FF 10 44 (.array .int) RX10 := ⟨_, _, _, tyX10, rfl, tyX10_ok, nmX10, rfl, rfl, by decide, rfl⟩
theorem ff_10_45 : bw_FF 10 45 (.array .int) RX10 := ⟨_, _, _, tyX10, rfl, tyX10_ok, nmX10, rfl, rfl, by decide, rfl⟩
theorem ff_10_46 : bw_FF 10 46 (.array .int) RX10 := ⟨_, _, _, tyX10, rfl, tyX10_ok, nmX10, rfl, rfl, by decide, rfl⟩
theorem ff_10_47 : bw_FF 10 47 (.array .int) RX10 := ⟨_, _, _, tyX10, rfl, tyX10_ok, nmX10, rfl, rfl, by decide, rfl⟩
theorem ff_10_48 : bw_FF 10 48 (.array .int) RX10 := ⟨_, _, _, tyX10, rfl, tyX10_ok, nmX10, rfl, rfl, by decide, rfl⟩
theorem ff_10_49 : bw_FF 10 49 (.array .int) RX10 := ⟨_, _, _, tyX10, rfl, tyX10_ok, nmX10, rfl, rfl, by decide, rfl⟩
theorem ff_10_50 : bw_FF 10 50 (.array .int) RX10 := ⟨_, _, _, tyX10, rfl, tyX10_ok, nmX10, rfl, rfl, by decide, rfl⟩
theorem ff_10_51 : bw_FF 10 51 (.array .int) RX10 := ⟨_, _, _, tyX10, rfl, tyX10_ok, nmX10, rfl, rfl, by decide, rfl⟩
theorem ff_10_52 : bw_FF 10 52 (.array .int) RX10 := ⟨_, _, _, tyX10, rfl, tyX10_ok, nmX10, rfl, rfl, by decide, rfl⟩
theorem ff_10_53 : bw_FF 10 53 (.array .int) RX10 := ⟨_, _, _, tyX10, rfl, tyX10_ok, nmX10, rfl, rfl, by decide, rfl⟩
theorem mi_X9_init : bw_MI yX9_init cX9_init 2 0 := ⟨gd_of 87 (by decide +kernel) rfl, gd_of 64 (by decide +kernel) rfl, gd_of 86 (by decide +kernel) rfl, ⟨by decide, by decide, by decide +kernel⟩, rfl, by decide⟩
theorem mi_X0_init : bw_MI yX0_init cX0_init 1 0 := ⟨gd_of 104 (by decide +kernel) rfl, gd_of 66 (by decide +kernel) rfl, gd_of 103 (by decide +kernel) rfl, ⟨by decide, by decide, by decide +kernel⟩, rfl, by decide⟩
theorem mi_X1_init : bw_MI yX1_init cX1_init 4 3 := ⟨gd_of 945 (by decide +kernel) rfl, gd_of 77 (by decide +kernel) rfl, gd_of 944 (by decide +kernel) rfl, ⟨by decide, by decide, by decide +kernel⟩, rfl, by decide⟩
theorem mi_X2_init : bw_MI yX2_init cX2_init 1 0 := ⟨gd_of 205 (by decide +kernel) rfl, gd_of 67 (by decide +kernel) rfl, gd_of 204 (by decide +kernel) rfl, ⟨by decide, by decide, by decide +kernel⟩, rfl, by decide⟩
theorem mi_X3_init : bw_MI yX3_init cX3_init 1 0 := ⟨gd_of 286 (by decide +kernel) rfl, gd_of 69 (by decide +kernel) rfl, gd_of 285 (by decide +kernel) rfl, ⟨by decide, by decide, by decide +kernel⟩, rfl, by decide⟩
theorem mi_X4_init : bw_MI yX4_init cX4_init 1 0 := ⟨gd_of 337 (by decide +kernel) rfl, gd_of 71 (by decide +kernel) rfl, gd_of 336 (by decide +kernel) rfl, ⟨by decide, by decide, by decide +kernel⟩, rfl, by decide⟩
theorem mi_X5_init : bw_MI yX5_init cX5_init 1 0 := ⟨gd_of 354 (by decide +kernel) rfl, gd_of 72 (by decide +kernel) rfl, gd_of 353 (by decide +kernel) rfl, ⟨by decide, by decide, by decide +kernel⟩, rfl, by decide⟩
theorem mi_X6_init : bw_MI yX6_init cX6_init 2 0 := ⟨gd_of 95 (by decide +kernel) rfl, gd_of 65 (by decide +kernel) rfl, gd_of 94 (by decide +kernel) rfl, ⟨by decide, by decide, by decide +kernel⟩, rfl, by decide⟩
theorem mi_X7_init : bw_MI yX7_init cX7_init 1 0 := ⟨gd_of 292 (by decide +kernel) rfl, gd_of 70 (by decide +kernel) rfl, gd_of 291 (by decide +kernel) rfl, ⟨by decide, by decide, by decide +kernel⟩, rfl, by decide⟩
theorem mi_X8_init : bw_MI yX8_init cX8_init 1 0 := ⟨gd_of 267 (by decide +kernel) rfl, gd_of 68 (by decide +kernel) rfl, gd_of 266 (by decide +kernel) rfl, ⟨by decide, by decide, by decide +kernel⟩, rfl, by decide⟩
theorem mi_X10_init : bw_MI yX10_init cX10_init 1 0 := ⟨gd_of 1141 (by decide +kernel) rfl, gd_of 73 (by decide +kernel) rfl, gd_of 1140 (by decide +kernel) rfl, ⟨by decide, by decide, by decide +kernel⟩, rfl, by decide⟩
theorem ao_0 (U : State) (h : bw_AOs U) : va_AO RX0 U := h.1
theorem ao_1 (U : State) (h : bw_AOs U) : va_AO RX1 U := h.2.1
theorem ao_4 (U : State) (h : bw_AOs U) : va_AO RX4 U := h.2.2.1
theorem ao_5 (U : State) (h : bw_AOs U) : va_AO RX5 U := h.2.2.2
