
/-! memory and world -/
def lw_gd : List Cond := lw_tbl.filter goodWord
theorem gd_of {x : Cond} (i : Nat) (h : lw_tbl[i]? = some x) (hg : goodWord x = true) : x ∈ lw_gd := List.mem_filter.mpr ⟨List.mem_of_getElem? h, hg⟩
theorem inG0 : ∀ x ∈ wsX00, x ∈ lw_gd := fun x hx => List.mem_filter.mpr ⟨inX0 x hx, List.all_eq_true.mp (show wsX00.all goodWord = true by decide +kernel) x hx⟩
theorem inG1 : ∀ x ∈ wsX10, x ∈ lw_gd := fun x hx => List.mem_filter.mpr ⟨inX1 x hx, List.all_eq_true.mp (show wsX10.all goodWord = true by decide +kernel) x hx⟩
theorem inG2 : ∀ x ∈ wsX20, x ∈ lw_gd := fun x hx => List.mem_filter.mpr ⟨inX2 x hx, List.all_eq_true.mp (show wsX20.all goodWord = true by decide +kernel) x hx⟩
theorem inG3 : ∀ x ∈ wsX30, x ∈ lw_gd := fun x hx => List.mem_filter.mpr ⟨inX3 x hx, List.all_eq_true.mp (show wsX30.all goodWord = true by decide +kernel) x hx⟩
theorem inG4 : ∀ x ∈ wsX40, x ∈ lw_gd := fun x hx => List.mem_filter.mpr ⟨inX4 x hx, List.all_eq_true.mp (show wsX40.all goodWord = true by decide +kernel) x hx⟩
theorem inG5 : ∀ x ∈ wsX50, x ∈ lw_gd := fun x hx => List.mem_filter.mpr ⟨inX5 x hx, List.all_eq_true.mp (show wsX50.all goodWord = true by decide +kernel) x hx⟩
theorem inG6 : ∀ x ∈ wsX60, x ∈ lw_gd := fun x hx => List.mem_filter.mpr ⟨inX6 x hx, List.all_eq_true.mp (show wsX60.all goodWord = true by decide +kernel) x hx⟩
theorem inG7 : ∀ x ∈ wsX70, x ∈ lw_gd := fun x hx => List.mem_filter.mpr ⟨inX7 x hx, List.all_eq_true.mp (show wsX70.all goodWord = true by decide +kernel) x hx⟩
theorem inG8 : ∀ x ∈ wsX80, x ∈ lw_gd := fun x hx => List.mem_filter.mpr ⟨inX8 x hx, List.all_eq_true.mp (show wsX80.all goodWord = true by decide +kernel) x hx⟩
theorem inG9 : ∀ x ∈ wsX90, x ∈ lw_gd := fun x hx => List.mem_filter.mpr ⟨inX9 x hx, List.all_eq_true.mp (show wsX90.all goodWord = true by decide +kernel) x hx⟩
theorem inG10 : ∀ x ∈ wsX100, x ∈ lw_gd := fun x hx => List.mem_filter.mpr ⟨inX10 x hx, List.all_eq_true.mp (show wsX100.all goodWord = true by decide +kernel) x hx⟩
def bw_nest : List (String × Nat × MethodName × String) := [("BookBoards$Stock", 53, ⟨"BookBoards$Board", "<init>", "()V"⟩, "BookBoards"), ("BookBoards", 21, ⟨"BookBoards$Plan", "<init>", "()V"⟩, "BookBoards"), ("BookBoards", 28, ⟨"BookBoards$Years", "<init>", "()V"⟩, "BookBoards"), ("BookBoards", 35, ⟨"BookBoards$Reader", "<init>", "()V"⟩, "BookBoards"), ("BookBoards$Reader", 11, ⟨"BookBoards$Tape", "<init>", "()V"⟩, "BookBoards"), ("BookBoards", 73, ⟨"BookBoards$Sheet", "<init>", "()V"⟩, "BookBoards"), ("BookBoards", 74, ⟨"BookBoards$Slot", "<init>", "()V"⟩, "BookBoards"), ("BookBoards$Slot", 11, ⟨"BookBoards$Board", "<init>", "()V"⟩, "BookBoards"), ("BookBoards$Slot", 20, ⟨"BookBoards$Sheet", "<init>", "()V"⟩, "BookBoards"), ("BookBoards$Stock", 76, ⟨"BookBoards", "isWithin", "(III)Z"⟩, "BookBoards"), ("BookBoards$Plan", 95, ⟨"BookBoards", "isWithin", "(III)Z"⟩, "BookBoards"), ("BookBoards$Plan", 134, ⟨"BookBoards", "held", "(III)I"⟩, "BookBoards"), ("BookBoards$Stock", 100, ⟨"BookBoards", "held", "(III)I"⟩, "BookBoards"), ("BookBoards$Tape", 35, ⟨"BookBoards", "isWithin", "(III)Z"⟩, "BookBoards"), ("BookBoards$Years", 49, ⟨"BookBoards", "isWithin", "(III)Z"⟩, "BookBoards"), ("BookBoards$Years", 70, ⟨"BookBoards", "held", "(III)I"⟩, "BookBoards"), ("BookBoards$Sheet", 19, ⟨"BookBoards", "held", "(III)I"⟩, "BookBoards"), ("BookBoards$Sheet", 38, ⟨"BookBoards", "isWithin", "(III)Z"⟩, "BookBoards"), ("BookBoards$Sheet", 42, ⟨"BookBoards", "isSize", "(I)Z"⟩, "BookBoards")]
def bw_up (M : Mem) (k i : Nat) (x : Int32) : Mem := fun b => if b = k then upd (M k) i x else M b
theorem bw_get {w : WE} {M : Mem} {k : Nat} (hk : k < bw_nn M) : (bw_W w M)[k]? = some (bw_ad w k, bw_E w k (M k)) := by
  simp [bw_W, List.getElem?_map, List.getElem?_range hk]
theorem bw_of {w : WE} {M : Mem} {k : Nat} {q : Nat × va_E} (h : (bw_W w M)[k]? = some q) : k < bw_nn M ∧ q.1 = bw_ad w k := by
  have hlt : k < (bw_W w M).length := (List.getElem?_eq_some_iff.mp h).1
  have hk : k < bw_nn M := by simpa [bw_W] using hlt
  rw [bw_get hk] at h
  cases h
  exact ⟨hk, rfl⟩
theorem bw_nn_up {M : Mem} {k i : Nat} {x : Int32} (hg : ¬ (k = 0 ∧ i = 1000)) : bw_nn (bw_up M k i x) = bw_nn M := by
  have e : bw_up M k i x 0 1000 = M 0 1000 := by
    unfold bw_up
    by_cases h : 0 = k
    · subst h
      have h2 : ¬ 1000 = i := fun q => hg ⟨rfl, q.symm⟩
      simp [upd, h2]
    · rw [if_neg h]
  unfold bw_nn
  rw [e]
theorem bw_ng {w : WE} {k i n : Nat} {t : ClassId} {g : (Nat → Int32) → ((Nat → Int32) ⊕ (Nat → Int64) ⊕ (Nat → UInt32) ⊕ (Nat → UInt64) ⊕ (Nat → Option Nat))} (hsh : ∀ r, bw_E w k r = .inl (t, n, g r)) : ¬ (k = 0 ∧ i = 1000) := by
  intro h
  have h1 := hsh (fun _ => 0)
  rw [h.1, sh_x] at h1
  cases h1
theorem bw_set {w : WE} {M : Mem} {k i : Nat} {x : Int32} {e : va_E} (hg : ¬ (k = 0 ∧ i = 1000)) (he : bw_E w k (upd (M k) i x) = e) : (bw_W w M).set k (bw_ad w k, e) = bw_W w (bw_up M k i x) := by
  subst he
  have hN := bw_nn_up (M := M) (x := x) hg
  apply List.ext_getElem?
  intro j
  rw [List.getElem?_set]
  by_cases hj : k = j
  · subst hj
    rw [if_pos rfl]
    by_cases hk : k < bw_nn M
    · rw [if_pos (by simpa [bw_W] using hk), bw_get (by rw [hN]; exact hk)]
      simp [bw_up]
    · rw [if_neg (by simpa [bw_W] using hk)]
      symm
      apply List.getElem?_eq_none
      simpa [bw_W, hN] using hk
  · rw [if_neg hj]
    by_cases hk : j < bw_nn M
    · rw [bw_get hk, bw_get (by rw [hN]; exact hk)]
      simp [bw_up, Ne.symm hj]
    · rw [List.getElem?_eq_none (by simpa [bw_W] using hk), List.getElem?_eq_none (by simpa [bw_W, hN] using hk)]
/-! old cells: the static row ABOVE, the String constants -/
def bw_ab : Nat → Int32 := fun j => match j with
  | 0 => -1
  | 1 => 0
  | 2 => 0
  | 3 => 1
  | 4 => 2
  | _ => 0
def bw_slen : List Nat := [4, 4, 4, 3, 2, 2]
def bw_sbyt : List (List Int32) := [[99, 111, 115, 116], [119, 97, 108, 107], [103, 114, 111, 119], [104, 110, 108], [104, 112], [112, 121]]
def bw_six : List (Nat × String) := [(60, "cost"), (66, "walk"), (68, "grow"), (70, "hnl"), (72, "hp"), (74, "py")]
def bw_Old (w : WE) (U : State) (H : Heap) : Prop :=
  va_Z RX9 "ABOVE" "[I" (.ref (bw_oa w 0)) (bw_A w) U H ∧ va_T .int (bw_oa w 0) 6 (fun j => .int (bw_ab j)) (bw_A w) U H ∧
  va_Z "java/lang/String" "COMPACT_STRINGS" "Z" (.int 1) (bw_A w) U H ∧
  vk_S 6 bw_slen bw_sbyt (fun i => bw_oa w (1 + i)) (fun i => bw_oa w (10 + i)) (bw_A w) U H ∧
  (∀ (i : Nat) (q : Nat × String), bw_six[i]? = some q → vk_R RX3 q.1 q.2 (bw_oa w (1 + i)) U) ∧
  (∃ q : Option Nat, va_Z "jdk/internal/util/Preconditions" "SIOOBE_FORMATTER" "Ljava/util/function/BiFunction;" (va_rf q) (bw_A w) U H) ∧
  (va_AO RX0 U ∧ va_AO RX1 U ∧ va_AO RX4 U ∧ va_AO RX5 U) ∧
  ∀ q ∈ bw_nest, va_Nw (.methodLinkNest q.1 q.2.1 q.2.2.1 q.2.2.2) U
theorem bw_Old.go {w : WE} {s U : State} {H : Heap} (h : bw_Old w s s.heap) (hW : s.WarmedH U.vm) (hq : ∀ a : Nat, a < s.heap.size → ¬ bw_A w a → H[a]? = s.heap[a]?) : bw_Old w U H := by
  obtain ⟨h1, h2, h3, h4, h5, ⟨q7, h7⟩, ⟨h8, h9, h10, h11⟩, h6⟩ := h
  exact ⟨(h1.kept hq).moved hW.alike, (h2.kept hq).moved hW.alike, (h3.kept hq).moved hW.alike, (h4.kept hq).moved hW.alike, fun i q e => (h5 i q e).warm hW, ⟨q7, (h7.kept hq).moved hW.alike⟩, ⟨h8.moved hW.alike, h9.moved hW.alike, h10.moved hW.alike, h11.moved hW.alike⟩, fun q hq => (h6 q hq).warmM hW⟩
theorem bw_Old.same {w : WE} {u U : State} {H : Heap} (hv : U.vm = u.vm) (h : bw_Old w u H) : bw_Old w U H := by
  obtain ⟨h1, h2, h3, h4, h5, ⟨q7, h7⟩, ⟨h8, h9, h10, h11⟩, h6⟩ := h
  have ha : u.vm.Alike U.vm := by rw [hv]; exact Vm.Alike.refl u.vm
  exact ⟨h1.moved ha, h2.moved ha, h3.moved ha, h4.moved ha, fun i q e => (h5 i q e).same hv, ⟨q7, h7.moved ha⟩, ⟨h8.moved ha, h9.moved ha, h10.moved ha, h11.moved ha⟩, fun q hq => (h6 q hq).same rfl hv.symm⟩
/-! the judgement -/
def bw_rm (d mc ms : Nat) : Room := { frames := d, cells := mc, slots := ms, locals := 40 * d }
def bw_Q (w : WE) (Z : Option Value → Heap → Prop) : Array Value → State → Outcome → State → Prop := fun _ st oc t => (∃ r, oc = .returned r ∧ Z r t.heap) ∧ va_F (bw_A w) st t
def bw_Z (w : WE) (post : Option Value → Mem → Prop) : Option Value → Heap → Prop := fun r H => ∃ M : Mem, post r M ∧ va_P (bw_d w) vwCl (bw_W w M) H ∧ va_D (bw_A w) (bw_W w M)
def bw_Pre (w : WE) (M : Mem) (U : State) : Prop := va_P (bw_d w) vwCl (bw_W w M) U.heap ∧ va_K (bw_d w) vwCl (bw_T w) U ∧ va_D (bw_A w) (bw_W w M) ∧ bw_bz w ≤ U.heap.size ∧ bw_Old w U U.heap
def bw_CX (w : WE) (d mc ms : Nat) (cc : ByteArray) (own : String) (nL : Nat) (ret : Option FieldType) (p : Program) (s : State) (m : MethodId) (args : Array Value) (meth : Method) (c : Code) : Prop :=
  p.tables.exec = Jvm.exec ∧ c.code = cc ∧ c.maxLocals = nL ∧ s.vm.findClass own = some m.cls ∧ (∀ x ∈ lw_gd, x.before args s = true) ∧ meth.sig.returnType = ret ∧ meth.locks = false ∧ va_K (bw_d w) vwCl (bw_T w) s ∧ bw_bz w ≤ s.heap.size ∧ bw_Old w s s.heap
def bw_lv (ls : Array Slot) (nL : Nat) (lv : List (Nat × Value)) : Prop := ls.size = nL ∧ lv_wf ls ∧ ∀ (i : Nat) (v : Value), lv.lookup i = some v → v.category = 1 ∧ ls[i]? = some (.val v)
def RW (w : WE) (d cu su mc ms : Nat) (cc : ByteArray) (own : String) (nL : Nat) (ret : Option FieldType) (Z : Option Value → Heap → Prop) (pc : Nat) (lv : List (Nat × Value)) (st : List Value) (M : Mem) : Prop :=
  ∀ (p : Program) (l : Launch) (e : Env) (s : State) (m : MethodId) (args : Array Value) (below : List Frame) (meth : Method) (c : Code) (H : Heap) (locs : List Loc) (ls : Array Slot),
    bw_CX w d mc ms cc own nL ret p s m args meth c → cu ≤ mc → su ≤ ms → va_P (bw_d w) vwCl (bw_W w M) H → va_D (bw_A w) (bw_W w M) → va_S (bw_A w) s.heap H locs → bw_lv ls nL lv →
    W p l e (bw_rm d mc ms) s m args below meth c H locs cu su (MQ below (bw_Q w Z) args s mc ms (bw_A w)) (F0 m pc ls st)
/-- a contract -/
def bw_M (w : WE) (d mc ms : Nat) (y : MethodName) (cc : ByteArray) (nL : Nat) (ret : Option FieldType) (As : List Value) (M : Mem) (Z : Option Value → Heap → Prop) : Prop :=
  ∀ l : Launch, Met l y (.code y cc nL ret :: lw_gd) (bw_rm d mc ms) (va_Pc As (bw_Pre w M)) (bw_Q w Z) mc ms (bw_A w)
def Ct (w : WE) (d : Nat) (y : MethodName) (cc : ByteArray) (nL : Nat) (ret : Option FieldType) (As : List Value) (M : Mem) (post : Option Value → Mem → Prop) : Prop := bw_M w d 0 0 y cc nL ret As M (bw_Z w post)
def bw_c1 : List Value → Bool
  | [] => true
  | v :: l => decide (v.category = 1) && bw_c1 l
theorem bw_c1_in : ∀ {l : List Value}, bw_c1 l = true → ∀ v ∈ l, v.category = 1
  | [], _, v, h => absurd h List.not_mem_nil
  | a :: l, h, v, hv => by
    simp only [bw_c1, Bool.and_eq_true, decide_eq_true_eq] at h
    rcases List.mem_cons.mp hv with rfl | hv
    · exact h.1
    · exact bw_c1_in h.2 v hv
def bw_args : Nat → List Value → List (Nat × Value)
  | _, [] => []
  | i, v :: vs => (i, v) :: bw_args (i + 1) vs
theorem bw_args_eq : ∀ (l : List Value) (i : Nat), (∀ v ∈ l, v.category = 1) → lv_args i l = bw_args i l
  | [], _, _ => rfl
  | v :: l, i, h => by
    have h1 : ¬ v.category = 2 := by rw [h v List.mem_cons_self]; decide
    rw [lv_args, if_neg h1, bw_args, bw_args_eq l (i + 1) (fun u hu => h u (List.mem_cons_of_mem _ hu))]
theorem bw_lk_mem {v : Value} {i : Nat} : ∀ {l : List (Nat × Value)}, l.lookup i = some v → (i, v) ∈ l
  | [], h => by simp at h
  | (j, u) :: l, h => by
    rw [List.lookup_cons] at h
    by_cases e : i = j
    · subst e
      simp at h
      subst h
      exact List.mem_cons_self
    · have e' : (i == j) = false := by simpa using e
      rw [e'] at h
      exact List.mem_cons_of_mem _ (bw_lk_mem h)
theorem bw_args_c : ∀ {l : List Value} {n : Nat} {q : Nat × Value}, q ∈ bw_args n l → q.2 ∈ l
  | [], _, q, h => by simp [bw_args] at h
  | v :: l, n, q, h => by
    rcases List.mem_cons.mp h with rfl | h
    · exact List.mem_cons_self
    · exact List.mem_cons_of_mem _ (bw_args_c h)
theorem lg_sl_1 : ∀ {l : List Value}, (∀ v ∈ l, v.category = 1) → (lg_sl l).length = l.length
  | [], _ => rfl
  | v :: l, h => by
    have h1 : ¬ v.category = 2 := by rw [h v List.mem_cons_self]; decide
    have ih := lg_sl_1 (fun u hu => h u (List.mem_cons_of_mem _ hu))
    unfold lg_sl at ih ⊢
    rw [List.flatMap_cons, if_neg h1, List.length_append, ih]
    simp [Nat.add_comm]
theorem bw_good : ∀ x ∈ lw_gd, ((x.onTables && x.keeps) = true ∨ ∃ ty, x = .arrayClass ty) := fun x hx => good_of_word (List.mem_filter.mp hx).2
theorem bw_M.of {w : WE} {d mc ms : Nat} {y : MethodName} {cc : ByteArray} {nL : Nat} {own : String} {ret : Option FieldType} {As : List Value} {M : Mem} {Z : Option Value → Heap → Prop} (ho : y.cls = own) (hy : plainName own = true) (hA : ∀ v ∈ As, v.category = 1) (hn : As.length ≤ nL)
    (k : RW w d 0 0 mc ms cc own nL ret Z 0 (bw_args 0 As) [] M) : bw_M w d mc ms y cc nL ret As M Z := by
  subst ho
  intro l
  refine Met.ofW (cc := cc) (maxL := nL) (ret := ret) hy rfl ?_
  intro p e s m args below meth c s₁ B hml hv
  obtain ⟨rfl, hP, hK, hD, hz, hO⟩ := hv
  have hts := atoms_spec (ws := .code y cc nL ret :: lw_gd) B.pre
  have hown : s.vm.findClass y.cls = some m.cls := findClass_of_methodNamed B.named
  have hl := lv_entry As (n := nL) (by rw [lg_sl_1 hA]; exact hn)
  rw [lg_entry_eq]
  refine k p l e s m As.toArray below meth c s.heap [] _ ⟨B.exec, B.bytes, hml, hown, fun x hx => hts x (List.mem_cons_of_mem _ hx), B.returns, B.notSynchronized, hK, hz, hO⟩ (Nat.zero_le _) (Nat.zero_le _) hP hD va_S.rf ⟨hl.1, hl.2.1, fun i v hi => ?_⟩
  have hm := bw_lk_mem hi
  refine ⟨hA v (bw_args_c hm), hl.2.2 (i, v) ?_⟩
  rw [bw_args_eq As 0 hA]
  exact hm
theorem Ct.of {w : WE} {d : Nat} {y : MethodName} {cc : ByteArray} {nL : Nat} {own : String} {ret : Option FieldType} {As : List Value} {M : Mem} {post : Option Value → Mem → Prop} (ho : y.cls = own) (hy : plainName own = true) (hA : ∀ v ∈ As, v.category = 1) (hn : As.length ≤ nL)
    (k : RW w d 0 0 0 0 cc own nL ret (bw_Z w post) 0 (bw_args 0 As) [] M) : Ct w d y cc nL ret As M post := bw_M.of ho hy hA hn k
theorem bw_cat_rf (r : Option Nat) : (va_rf r).category = 1 := by cases r <;> rfl
theorem bw_store {ls : Array Slot} {nL : Nat} {lv : List (Nat × Value)} {i : Nat} {v : Value} (h : bw_lv ls nL lv) (hi : i < nL) (hc : v.category = 1) : ∃ ls', storeLocals ls i v = some ls' ∧ bw_lv ls' nL ((i, v) :: lv) := by
  obtain ⟨ls', e', h'⟩ := lv_store1 (v := v) (l := []) ⟨h.1, h.2.1, fun q hq => absurd hq List.not_mem_nil⟩ hi hc
  refine ⟨ls', e', h'.1, h'.2.1, fun j u hj => ?_⟩
  rw [List.lookup_cons] at hj
  by_cases e : j = i
  · subst e
    simp at hj
    subst hj
    exact ⟨hc, h'.2.2 (j, v) List.mem_cons_self⟩
  · have e0 : (j == i) = false := by simpa using e
    rw [e0] at hj
    obtain ⟨c1, g1⟩ := h.2.2 j u hj
    refine ⟨c1, ?_⟩
    obtain ⟨ls2, e2, h2⟩ := lv_store1 (v := v) (l := [(j, u)]) ⟨h.1, h.2.1, fun q hq => by rw [List.mem_singleton.mp hq]; exact g1⟩ hi hc
    have e3 : ls' = ls2 := Option.some.inj (e'.symm.trans e2)
    subst e3
    refine h2.2.2 (j, u) (List.mem_cons_of_mem _ ?_)
    rw [List.mem_filter]
    refine ⟨List.mem_singleton.mpr rfl, ?_⟩
    simp [e, c1]

section RWS
variable {w : WE} {d cu su mc ms : Nat} {cc : ByteArray} {own : String} {nL : Nat} {ret : Option FieldType} {Z : Option Value → Heap → Prop} {pc : Nat} {lv : List (Nat × Value)} {st : List Value} {M : Mem}
theorem rw_sub {lv2 : List (Nat × Value)} (h : ∀ (i : Nat) (v : Value), lv2.lookup i = some v → lv.lookup i = some v) (k : RW w d cu su mc ms cc own nL ret Z pc lv2 st M) : RW w d cu su mc ms cc own nL ret Z pc lv st M :=
  fun p l e s m args below meth c H locs ls C hu hv hP hD hS hl => k p l e s m args below meth c H locs ls C hu hv hP hD hS ⟨hl.1, hl.2.1, fun i v hi => hl.2.2 i v (h i v hi)⟩
theorem rw_lz (i : Nat) (v : Value) (h : ([] : List (Nat × Value)).lookup i = some v) : lv.lookup i = some v := by simp at h
theorem rw_lc {lv2 : List (Nat × Value)} {j : Nat} {u : Value} (h1 : lv.lookup j = some u) (h : ∀ (i : Nat) (v : Value), lv2.lookup i = some v → lv.lookup i = some v) : ∀ (i : Nat) (v : Value), ((j, u) :: lv2).lookup i = some v → lv.lookup i = some v := by
  intro i v hi
  rw [List.lookup_cons] at hi
  by_cases e : i = j
  · subst e
    simp at hi
    subst hi
    exact h1
  · have e0 : (i == j) = false := by simpa using e
    rw [e0] at hi
    exact h i v hi
theorem rw_m {M' : Mem} (h : M = M') (k : RW w d cu su mc ms cc own nL ret Z pc lv st M') : RW w d cu su mc ms cc own nL ret Z pc lv st M := by subst h; exact k
theorem rw_iconst {n : Int} {v : Int32} (hd : decode cc pc = .ok (.iconst n, 1)) (hv0 : Int32.ofInt n = v) (k : RW w d cu su mc ms cc own nL ret Z (pc + 1) lv (.int v :: st) M) : RW w d cu su mc ms cc own nL ret Z pc lv st M :=
  fun p l e s m args below meth c H locs ls C hu hv hP hD hS hl => lv_iconst C.1 C.2.1 hd hv0 (k p l e s m args below meth c H locs ls C hu hv hP hD hS hl)
theorem rw_bipush {n : Int} {v : Int32} (hd : decode cc pc = .ok (.bipush n, 2)) (hv0 : (Int8.ofInt n).toInt32 = v) (k : RW w d cu su mc ms cc own nL ret Z (pc + 2) lv (.int v :: st) M) : RW w d cu su mc ms cc own nL ret Z pc lv st M :=
  fun p l e s m args below meth c H locs ls C hu hv hP hD hS hl => lv_bipush C.1 C.2.1 hd hv0 (k p l e s m args below meth c H locs ls C hu hv hP hD hS hl)
theorem rw_sipush {n : Int} {v : Int32} (hd : decode cc pc = .ok (.sipush n, 3)) (hv0 : (Int16.ofInt n).toInt32 = v) (k : RW w d cu su mc ms cc own nL ret Z (pc + 3) lv (.int v :: st) M) : RW w d cu su mc ms cc own nL ret Z pc lv st M :=
  fun p l e s m args below meth c H locs ls C hu hv hP hD hS hl => lv_sipush C.1 C.2.1 hd hv0 (k p l e s m args below meth c H locs ls C hu hv hP hD hS hl)
theorem rw_ldc {index : Nat} {v : Int32} (hd : decode cc pc = .ok (.ldc index, 2)) (hc : Cond.constant own index v ∈ lw_gd) (k : RW w d cu su mc ms cc own nL ret Z (pc + 2) lv (.int v :: st) M) : RW w d cu su mc ms cc own nL ret Z pc lv st M :=
  fun p l e s m args below meth c H locs ls C hu hv hP hD hS hl => lv_ldc C.1 C.2.1 C.2.2.2.1 (C.2.2.2.2.1 _ hc) hd (k p l e s m args below meth c H locs ls C hu hv hP hD hS hl)
theorem rw_ldcw {index : Nat} {v : Int32} (hd : decode cc pc = .ok (.ldc_w index, 3)) (hc : Cond.constant own index v ∈ lw_gd) (k : RW w d cu su mc ms cc own nL ret Z (pc + 3) lv (.int v :: st) M) : RW w d cu su mc ms cc own nL ret Z pc lv st M :=
  fun p l e s m args below meth c H locs ls C hu hv hP hD hS hl => lv_ldcw C.1 C.2.1 C.2.2.2.1 (C.2.2.2.2.1 _ hc) hd (k p l e s m args below meth c H locs ls C hu hv hP hD hS hl)
theorem rw_iload_n {j : Fin 4} {i : Nat} {x : Int32} (hd : decode cc pc = .ok (.iload_n j, 1)) (hi : (j : Nat) = i) (hx : lv.lookup i = some (.int x)) (k : RW w d cu su mc ms cc own nL ret Z (pc + 1) lv (.int x :: st) M) : RW w d cu su mc ms cc own nL ret Z pc lv st M :=
  fun p l e s m args below meth c H locs ls C hu hv hP hD hS hl => lv_iload_n C.1 C.2.1 hd hi (hl.2.2 _ _ hx).2 (k p l e s m args below meth c H locs ls C hu hv hP hD hS hl)
theorem rw_iload {i : Nat} {x : Int32} (hd : decode cc pc = .ok (.iload i, 2)) (hx : lv.lookup i = some (.int x)) (k : RW w d cu su mc ms cc own nL ret Z (pc + 2) lv (.int x :: st) M) : RW w d cu su mc ms cc own nL ret Z pc lv st M :=
  fun p l e s m args below meth c H locs ls C hu hv hP hD hS hl => lv_iload C.1 C.2.1 hd (hl.2.2 _ _ hx).2 (k p l e s m args below meth c H locs ls C hu hv hP hD hS hl)
theorem rw_aload_n {j : Fin 4} {i : Nat} {x : Nat} (hd : decode cc pc = .ok (.aload_n j, 1)) (hi : (j : Nat) = i) (hx : lv.lookup i = some (.ref x)) (k : RW w d cu su mc ms cc own nL ret Z (pc + 1) lv (.ref x :: st) M) : RW w d cu su mc ms cc own nL ret Z pc lv st M :=
  fun p l e s m args below meth c H locs ls C hu hv hP hD hS hl => lv_aload_n C.1 C.2.1 hd hi (hl.2.2 _ _ hx).2 (k p l e s m args below meth c H locs ls C hu hv hP hD hS hl)
theorem rw_aload {i : Nat} {x : Nat} (hd : decode cc pc = .ok (.aload i, 2)) (hx : lv.lookup i = some (.ref x)) (k : RW w d cu su mc ms cc own nL ret Z (pc + 2) lv (.ref x :: st) M) : RW w d cu su mc ms cc own nL ret Z pc lv st M :=
  fun p l e s m args below meth c H locs ls C hu hv hP hD hS hl => lv_aload C.1 C.2.1 hd (hl.2.2 _ _ hx).2 (k p l e s m args below meth c H locs ls C hu hv hP hD hS hl)
theorem rw_aload_nQ {j : Fin 4} {i : Nat} {x : Option Nat} (hd : decode cc pc = .ok (.aload_n j, 1)) (hi : (j : Nat) = i) (hx : lv.lookup i = some (va_rf x)) (k : RW w d cu su mc ms cc own nL ret Z (pc + 1) lv (va_rf x :: st) M) : RW w d cu su mc ms cc own nL ret Z pc lv st M := by
  intro p l e s m args below meth c H locs ls C hu hv hP hD hS hl
  cases x with
  | none => exact lv_aload_nN C.1 C.2.1 hd hi (hl.2.2 _ _ hx).2 (k p l e s m args below meth c H locs ls C hu hv hP hD hS hl)
  | some a => exact lv_aload_n C.1 C.2.1 hd hi (hl.2.2 _ _ hx).2 (k p l e s m args below meth c H locs ls C hu hv hP hD hS hl)
theorem rw_aloadQ {i : Nat} {x : Option Nat} (hd : decode cc pc = .ok (.aload i, 2)) (hx : lv.lookup i = some (va_rf x)) (k : RW w d cu su mc ms cc own nL ret Z (pc + 2) lv (va_rf x :: st) M) : RW w d cu su mc ms cc own nL ret Z pc lv st M := by
  intro p l e s m args below meth c H locs ls C hu hv hP hD hS hl
  cases x with
  | none => exact lv_aloadN C.1 C.2.1 hd (hl.2.2 _ _ hx).2 (k p l e s m args below meth c H locs ls C hu hv hP hD hS hl)
  | some a => exact lv_aload C.1 C.2.1 hd (hl.2.2 _ _ hx).2 (k p l e s m args below meth c H locs ls C hu hv hP hD hS hl)
theorem rw_istore_n {j : Fin 4} {i : Nat} {x : Int32} (hd : decode cc pc = .ok (.istore_n j, 1)) (hi : (j : Nat) = i) (hn : i < nL) (k : RW w d cu su mc ms cc own nL ret Z (pc + 1) ((i, .int x) :: lv) st M) : RW w d cu su mc ms cc own nL ret Z pc lv (.int x :: st) M := by
  intro p l e s m args below meth c H locs ls C hu hv hP hD hS hl
  subst hi
  obtain ⟨ls', e', h'⟩ := bw_store (v := .int x) hl hn rfl
  intro T hT X
  obtain ⟨t, a, b⟩ := k p l e s m args below meth c H locs ls' C hu hv hP hD hS h' T hT X
  refine ⟨t, ?_, b⟩
  have hexec := C.1
  have hb := C.2.1
  jvm_step X.here [X.here.top, ↓top_set X.here.top, hexec, hb, hd, e']
  exact a
theorem rw_istore {i : Nat} {x : Int32} (hd : decode cc pc = .ok (.istore i, 2)) (hn : i < nL) (k : RW w d cu su mc ms cc own nL ret Z (pc + 2) ((i, .int x) :: lv) st M) : RW w d cu su mc ms cc own nL ret Z pc lv (.int x :: st) M := by
  intro p l e s m args below meth c H locs ls C hu hv hP hD hS hl
  obtain ⟨ls', e', h'⟩ := bw_store (v := .int x) hl hn rfl
  intro T hT X
  obtain ⟨t, a, b⟩ := k p l e s m args below meth c H locs ls' C hu hv hP hD hS h' T hT X
  refine ⟨t, ?_, b⟩
  have hexec := C.1
  have hb := C.2.1
  jvm_step X.here [X.here.top, ↓top_set X.here.top, hexec, hb, hd, e']
  exact a
theorem rw_astore_n {j : Fin 4} {i : Nat} {x : Nat} (hd : decode cc pc = .ok (.astore_n j, 1)) (hi : (j : Nat) = i) (hn : i < nL) (k : RW w d cu su mc ms cc own nL ret Z (pc + 1) ((i, .ref x) :: lv) st M) : RW w d cu su mc ms cc own nL ret Z pc lv (.ref x :: st) M := by
  intro p l e s m args below meth c H locs ls C hu hv hP hD hS hl
  subst hi
  obtain ⟨ls', e', h'⟩ := bw_store (v := .ref x) hl hn rfl
  intro T hT X
  obtain ⟨t, a, b⟩ := k p l e s m args below meth c H locs ls' C hu hv hP hD hS h' T hT X
  refine ⟨t, ?_, b⟩
  have hexec := C.1
  have hb := C.2.1
  jvm_step X.here [X.here.top, ↓top_set X.here.top, hexec, hb, hd, e', Value.isRef]
  exact a
theorem rw_astore {i : Nat} {x : Nat} (hd : decode cc pc = .ok (.astore i, 2)) (hn : i < nL) (k : RW w d cu su mc ms cc own nL ret Z (pc + 2) ((i, .ref x) :: lv) st M) : RW w d cu su mc ms cc own nL ret Z pc lv (.ref x :: st) M := by
  intro p l e s m args below meth c H locs ls C hu hv hP hD hS hl
  obtain ⟨ls', e', h'⟩ := bw_store (v := .ref x) hl hn rfl
  intro T hT X
  obtain ⟨t, a, b⟩ := k p l e s m args below meth c H locs ls' C hu hv hP hD hS h' T hT X
  refine ⟨t, ?_, b⟩
  have hexec := C.1
  have hb := C.2.1
  jvm_step X.here [X.here.top, ↓top_set X.here.top, hexec, hb, hd, e', Value.isRef]
  exact a
theorem rw_astoreQ {i : Nat} {x : Option Nat} (hd : decode cc pc = .ok (.astore i, 2)) (hn : i < nL) (k : RW w d cu su mc ms cc own nL ret Z (pc + 2) ((i, va_rf x) :: lv) st M) : RW w d cu su mc ms cc own nL ret Z pc lv (va_rf x :: st) M := by
  cases x with
  | some a => exact rw_astore hd hn k
  | none =>
    intro p l e s m args below meth c H locs ls C hu hv hP hD hS hl
    obtain ⟨ls', e', h'⟩ := bw_store (v := .null) hl hn rfl
    intro T hT X
    obtain ⟨t, a, b⟩ := k p l e s m args below meth c H locs ls' C hu hv hP hD hS h' T hT X
    refine ⟨t, ?_, b⟩
    have hexec := C.1
    have hb := C.2.1
    show Steps _ _ _ (T.setTop (F0 m pc ls (.null :: st))) t
    jvm_step X.here [X.here.top, ↓top_set X.here.top, hexec, hb, hd, e', Value.isRef]
    exact a
theorem rw_astore_nQ {j : Fin 4} {i : Nat} {x : Option Nat} (hd : decode cc pc = .ok (.astore_n j, 1)) (hi : (j : Nat) = i) (hn : i < nL) (k : RW w d cu su mc ms cc own nL ret Z (pc + 1) ((i, va_rf x) :: lv) st M) : RW w d cu su mc ms cc own nL ret Z pc lv (va_rf x :: st) M := by
  cases x with
  | some a => exact rw_astore_n hd hi hn k
  | none =>
    intro p l e s m args below meth c H locs ls C hu hv hP hD hS hl
    subst hi
    obtain ⟨ls', e', h'⟩ := bw_store (v := .null) hl hn rfl
    intro T hT X
    obtain ⟨t, a, b⟩ := k p l e s m args below meth c H locs ls' C hu hv hP hD hS h' T hT X
    refine ⟨t, ?_, b⟩
    have hexec := C.1
    have hb := C.2.1
    show Steps _ _ _ (T.setTop (F0 m pc ls (.null :: st))) t
    jvm_step X.here [X.here.top, ↓top_set X.here.top, hexec, hb, hd, e', Value.isRef]
    exact a
theorem rw_iinc {i : Nat} {n : Int} {x v : Int32} (hd : decode cc pc = .ok (.iinc i n, 3)) (hx : lv.lookup i = some (.int x)) (hv0 : x + Int32.ofInt n = v) (hn : i < nL) (k : RW w d cu su mc ms cc own nL ret Z (pc + 3) ((i, .int v) :: lv) st M) : RW w d cu su mc ms cc own nL ret Z pc lv st M := by
  intro p l e s m args below meth c H locs ls C hu hv hP hD hS hl
  subst hv0
  have hg := (hl.2.2 _ _ hx).2
  obtain ⟨ls', e', h'⟩ := bw_store (v := .int (x + Int32.ofInt n)) hl hn rfl
  intro T hT X
  obtain ⟨t, a, b⟩ := k p l e s m args below meth c H locs ls' C hu hv hP hD hS h' T hT X
  refine ⟨t, ?_, b⟩
  have hexec := C.1
  have hb := C.2.1
  jvm_step X.here [X.here.top, ↓top_set X.here.top, hexec, hb, hd, hg, e']
  exact a
theorem rw_iadd {x y : Int32} (hd : decode cc pc = .ok (.iadd, 1)) (k : RW w d cu su mc ms cc own nL ret Z (pc + 1) lv (.int (x + y) :: st) M) : RW w d cu su mc ms cc own nL ret Z pc lv (.int y :: .int x :: st) M :=
  fun p l e s m args below meth c H locs ls C hu hv hP hD hS hl => lv_iadd C.1 C.2.1 hd (k p l e s m args below meth c H locs ls C hu hv hP hD hS hl)
theorem rw_isub {x y : Int32} (hd : decode cc pc = .ok (.isub, 1)) (k : RW w d cu su mc ms cc own nL ret Z (pc + 1) lv (.int (x - y) :: st) M) : RW w d cu su mc ms cc own nL ret Z pc lv (.int y :: .int x :: st) M :=
  fun p l e s m args below meth c H locs ls C hu hv hP hD hS hl => lv_isub C.1 C.2.1 hd (k p l e s m args below meth c H locs ls C hu hv hP hD hS hl)
theorem rw_imul {x y : Int32} (hd : decode cc pc = .ok (.imul, 1)) (k : RW w d cu su mc ms cc own nL ret Z (pc + 1) lv (.int (x * y) :: st) M) : RW w d cu su mc ms cc own nL ret Z pc lv (.int y :: .int x :: st) M :=
  fun p l e s m args below meth c H locs ls C hu hv hP hD hS hl => lv_imul C.1 C.2.1 hd (k p l e s m args below meth c H locs ls C hu hv hP hD hS hl)
theorem rw_iand {x y : Int32} (hd : decode cc pc = .ok (.iand, 1)) (k : RW w d cu su mc ms cc own nL ret Z (pc + 1) lv (.int (x &&& y) :: st) M) : RW w d cu su mc ms cc own nL ret Z pc lv (.int y :: .int x :: st) M :=
  fun p l e s m args below meth c H locs ls C hu hv hP hD hS hl => lv_iand C.1 C.2.1 hd (k p l e s m args below meth c H locs ls C hu hv hP hD hS hl)
theorem rw_ior {x y : Int32} (hd : decode cc pc = .ok (.ior, 1)) (k : RW w d cu su mc ms cc own nL ret Z (pc + 1) lv (.int (x ||| y) :: st) M) : RW w d cu su mc ms cc own nL ret Z pc lv (.int y :: .int x :: st) M :=
  fun p l e s m args below meth c H locs ls C hu hv hP hD hS hl => lv_ior C.1 C.2.1 hd (k p l e s m args below meth c H locs ls C hu hv hP hD hS hl)
theorem rw_ishr {x y : Int32} (hd : decode cc pc = .ok (.ishr, 1)) (k : RW w d cu su mc ms cc own nL ret Z (pc + 1) lv (.int (x >>> (y &&& 31)) :: st) M) : RW w d cu su mc ms cc own nL ret Z pc lv (.int y :: .int x :: st) M :=
  fun p l e s m args below meth c H locs ls C hu hv hP hD hS hl => lv_ishr C.1 C.2.1 hd (k p l e s m args below meth c H locs ls C hu hv hP hD hS hl)
def bw_rem (x y : Int32) : Int32 := x - x / y * y
theorem rw_idiv {x y : Int32} (hd : decode cc pc = .ok (.idiv, 1)) (hne : ¬ y = 0) (k : RW w d cu su mc ms cc own nL ret Z (pc + 1) lv (.int (x / y) :: st) M) : RW w d cu su mc ms cc own nL ret Z pc lv (.int y :: .int x :: st) M :=
  fun p l e s m args below meth c H locs ls C hu hv hP hD hS hl => lv_idiv C.1 C.2.1 hd hne (k p l e s m args below meth c H locs ls C hu hv hP hD hS hl)
theorem rw_irem {x y : Int32} (hd : decode cc pc = .ok (.irem, 1)) (hne : ¬ y = 0) (k : RW w d cu su mc ms cc own nL ret Z (pc + 1) lv (.int (bw_rem x y) :: st) M) : RW w d cu su mc ms cc own nL ret Z pc lv (.int y :: .int x :: st) M :=
  fun p l e s m args below meth c H locs ls C hu hv hP hD hS hl => lv_irem C.1 C.2.1 hd hne (k p l e s m args below meth c H locs ls C hu hv hP hD hS hl)
theorem rw_ineg {x : Int32} (hd : decode cc pc = .ok (.ineg, 1)) (k : RW w d cu su mc ms cc own nL ret Z (pc + 1) lv (.int (-x) :: st) M) : RW w d cu su mc ms cc own nL ret Z pc lv (.int x :: st) M :=
  fun p l e s m args below meth c H locs ls C hu hv hP hD hS hl => lv_ineg C.1 C.2.1 hd (k p l e s m args below meth c H locs ls C hu hv hP hD hS hl)
def bw_ushr (x y : Int32) : Int32 := (x.toUInt32 >>> (y.toUInt32 &&& Int32.toUInt32 31)).toInt32
theorem rw_iushr {x y : Int32} (hd : decode cc pc = .ok (.iushr, 1)) (k : RW w d cu su mc ms cc own nL ret Z (pc + 1) lv (.int (bw_ushr x y) :: st) M) : RW w d cu su mc ms cc own nL ret Z pc lv (.int y :: .int x :: st) M :=
  fun p l e s m args below meth c H locs ls C hu hv hP hD hS hl => lv_iushr C.1 C.2.1 hd rfl (k p l e s m args below meth c H locs ls C hu hv hP hD hS hl)
theorem rw_i2s {x : Int32} (hd : decode cc pc = .ok (.i2s, 1)) (k : RW w d cu su mc ms cc own nL ret Z (pc + 1) lv (.int x.toInt16.toInt32 :: st) M) : RW w d cu su mc ms cc own nL ret Z pc lv (.int x :: st) M :=
  fun p l e s m args below meth c H locs ls C hu hv hP hD hS hl => lv_i2s C.1 C.2.1 hd rfl (k p l e s m args below meth c H locs ls C hu hv hP hD hS hl)
theorem rw_i2c {x : Int32} (hd : decode cc pc = .ok (.i2c, 1)) (k : RW w d cu su mc ms cc own nL ret Z (pc + 1) lv (.int (x.toUInt32 % 65536).toInt32 :: st) M) : RW w d cu su mc ms cc own nL ret Z pc lv (.int x :: st) M :=
  fun p l e s m args below meth c H locs ls C hu hv hP hD hS hl => lv_i2c C.1 C.2.1 hd rfl (k p l e s m args below meth c H locs ls C hu hv hP hD hS hl)
theorem rw_dup {va : Value} (hd : decode cc pc = .ok (.dup, 1)) (hc : va.category = 1) (k : RW w d cu su mc ms cc own nL ret Z (pc + 1) lv (va :: va :: st) M) : RW w d cu su mc ms cc own nL ret Z pc lv (va :: st) M :=
  fun p l e s m args below meth c H locs ls C hu hv hP hD hS hl => lv_dup C.1 C.2.1 hd hc (k p l e s m args below meth c H locs ls C hu hv hP hD hS hl)
theorem rw_pop {va : Value} (hd : decode cc pc = .ok (.pop, 1)) (hc : va.category = 1) (k : RW w d cu su mc ms cc own nL ret Z (pc + 1) lv st M) : RW w d cu su mc ms cc own nL ret Z pc lv (va :: st) M :=
  fun p l e s m args below meth c H locs ls C hu hv hP hD hS hl => lv_pop C.1 C.2.1 hd hc (k p l e s m args below meth c H locs ls C hu hv hP hD hS hl)
theorem rw_dup2 {va vb : Value} (hd : decode cc pc = .ok (.dup2, 1)) (hc : va.category = 1) (hc2 : vb.category = 1) (k : RW w d cu su mc ms cc own nL ret Z (pc + 1) lv (va :: vb :: va :: vb :: st) M) : RW w d cu su mc ms cc own nL ret Z pc lv (va :: vb :: st) M :=
  fun p l e s m args below meth c H locs ls C hu hv hP hD hS hl => lv_dup2_11 C.1 C.2.1 hd hc hc2 (k p l e s m args below meth c H locs ls C hu hv hP hD hS hl)
theorem rw_null  (hd : decode cc pc = .ok (.aconst_null, 1)) (k : RW w d cu su mc ms cc own nL ret Z (pc + 1) lv (.null :: st) M) : RW w d cu su mc ms cc own nL ret Z pc lv st M :=
  fun p l e s m args below meth c H locs ls C hu hv hP hD hS hl => lv_null C.1 C.2.1 hd (k p l e s m args below meth c H locs ls C hu hv hP hD hS hl)
theorem rw_if_eq {x : Int32} {off : Int} {tgt : Nat} (hd : decode cc pc = .ok (.ifCond .eq off, 3)) (ht : (pc : Int) + off = (tgt : Int)) (kt : x = 0 → RW w d cu su mc ms cc own nL ret Z tgt lv st M) (kf : ¬ x = 0 → RW w d cu su mc ms cc own nL ret Z (pc + 3) lv st M) : RW w d cu su mc ms cc own nL ret Z pc lv (.int x :: st) M :=
  fun p l e s m args below meth c H locs ls C hu hv hP hD hS hl => lv_if_eq C.1 C.2.1 hd ht (fun q => kt q p l e s m args below meth c H locs ls C hu hv hP hD hS hl) (fun q => kf q p l e s m args below meth c H locs ls C hu hv hP hD hS hl)
theorem rw_icmp_eq {x y : Int32} {off : Int} {tgt : Nat} (hd : decode cc pc = .ok (.if_icmp .eq off, 3)) (ht : (pc : Int) + off = (tgt : Int)) (kt : x = y → RW w d cu su mc ms cc own nL ret Z tgt lv st M) (kf : ¬ x = y → RW w d cu su mc ms cc own nL ret Z (pc + 3) lv st M) : RW w d cu su mc ms cc own nL ret Z pc lv (.int y :: .int x :: st) M :=
  fun p l e s m args below meth c H locs ls C hu hv hP hD hS hl => lv_icmp_eq C.1 C.2.1 hd ht (fun q => kt q p l e s m args below meth c H locs ls C hu hv hP hD hS hl) (fun q => kf q p l e s m args below meth c H locs ls C hu hv hP hD hS hl)
theorem rw_if_ne {x : Int32} {off : Int} {tgt : Nat} (hd : decode cc pc = .ok (.ifCond .ne off, 3)) (ht : (pc : Int) + off = (tgt : Int)) (kt : ¬ x = 0 → RW w d cu su mc ms cc own nL ret Z tgt lv st M) (kf : x = 0 → RW w d cu su mc ms cc own nL ret Z (pc + 3) lv st M) : RW w d cu su mc ms cc own nL ret Z pc lv (.int x :: st) M :=
  fun p l e s m args below meth c H locs ls C hu hv hP hD hS hl => lv_if_ne C.1 C.2.1 hd ht (fun q => kt q p l e s m args below meth c H locs ls C hu hv hP hD hS hl) (fun q => kf q p l e s m args below meth c H locs ls C hu hv hP hD hS hl)
theorem rw_icmp_ne {x y : Int32} {off : Int} {tgt : Nat} (hd : decode cc pc = .ok (.if_icmp .ne off, 3)) (ht : (pc : Int) + off = (tgt : Int)) (kt : ¬ x = y → RW w d cu su mc ms cc own nL ret Z tgt lv st M) (kf : x = y → RW w d cu su mc ms cc own nL ret Z (pc + 3) lv st M) : RW w d cu su mc ms cc own nL ret Z pc lv (.int y :: .int x :: st) M :=
  fun p l e s m args below meth c H locs ls C hu hv hP hD hS hl => lv_icmp_ne C.1 C.2.1 hd ht (fun q => kt q p l e s m args below meth c H locs ls C hu hv hP hD hS hl) (fun q => kf q p l e s m args below meth c H locs ls C hu hv hP hD hS hl)
theorem rw_if_lt {x : Int32} {off : Int} {tgt : Nat} (hd : decode cc pc = .ok (.ifCond .lt off, 3)) (ht : (pc : Int) + off = (tgt : Int)) (kt : x < 0 → RW w d cu su mc ms cc own nL ret Z tgt lv st M) (kf : ¬ x < 0 → RW w d cu su mc ms cc own nL ret Z (pc + 3) lv st M) : RW w d cu su mc ms cc own nL ret Z pc lv (.int x :: st) M :=
  fun p l e s m args below meth c H locs ls C hu hv hP hD hS hl => lv_if_lt C.1 C.2.1 hd ht (fun q => kt q p l e s m args below meth c H locs ls C hu hv hP hD hS hl) (fun q => kf q p l e s m args below meth c H locs ls C hu hv hP hD hS hl)
theorem rw_icmp_lt {x y : Int32} {off : Int} {tgt : Nat} (hd : decode cc pc = .ok (.if_icmp .lt off, 3)) (ht : (pc : Int) + off = (tgt : Int)) (kt : x < y → RW w d cu su mc ms cc own nL ret Z tgt lv st M) (kf : ¬ x < y → RW w d cu su mc ms cc own nL ret Z (pc + 3) lv st M) : RW w d cu su mc ms cc own nL ret Z pc lv (.int y :: .int x :: st) M :=
  fun p l e s m args below meth c H locs ls C hu hv hP hD hS hl => lv_icmp_lt C.1 C.2.1 hd ht (fun q => kt q p l e s m args below meth c H locs ls C hu hv hP hD hS hl) (fun q => kf q p l e s m args below meth c H locs ls C hu hv hP hD hS hl)
theorem rw_if_ge {x : Int32} {off : Int} {tgt : Nat} (hd : decode cc pc = .ok (.ifCond .ge off, 3)) (ht : (pc : Int) + off = (tgt : Int)) (kt : 0 ≤ x → RW w d cu su mc ms cc own nL ret Z tgt lv st M) (kf : ¬ 0 ≤ x → RW w d cu su mc ms cc own nL ret Z (pc + 3) lv st M) : RW w d cu su mc ms cc own nL ret Z pc lv (.int x :: st) M :=
  fun p l e s m args below meth c H locs ls C hu hv hP hD hS hl => lv_if_ge C.1 C.2.1 hd ht (fun q => kt q p l e s m args below meth c H locs ls C hu hv hP hD hS hl) (fun q => kf q p l e s m args below meth c H locs ls C hu hv hP hD hS hl)
theorem rw_icmp_ge {x y : Int32} {off : Int} {tgt : Nat} (hd : decode cc pc = .ok (.if_icmp .ge off, 3)) (ht : (pc : Int) + off = (tgt : Int)) (kt : y ≤ x → RW w d cu su mc ms cc own nL ret Z tgt lv st M) (kf : ¬ y ≤ x → RW w d cu su mc ms cc own nL ret Z (pc + 3) lv st M) : RW w d cu su mc ms cc own nL ret Z pc lv (.int y :: .int x :: st) M :=
  fun p l e s m args below meth c H locs ls C hu hv hP hD hS hl => lv_icmp_ge C.1 C.2.1 hd ht (fun q => kt q p l e s m args below meth c H locs ls C hu hv hP hD hS hl) (fun q => kf q p l e s m args below meth c H locs ls C hu hv hP hD hS hl)
theorem rw_if_gt {x : Int32} {off : Int} {tgt : Nat} (hd : decode cc pc = .ok (.ifCond .gt off, 3)) (ht : (pc : Int) + off = (tgt : Int)) (kt : 0 < x → RW w d cu su mc ms cc own nL ret Z tgt lv st M) (kf : ¬ 0 < x → RW w d cu su mc ms cc own nL ret Z (pc + 3) lv st M) : RW w d cu su mc ms cc own nL ret Z pc lv (.int x :: st) M :=
  fun p l e s m args below meth c H locs ls C hu hv hP hD hS hl => lv_if_gt C.1 C.2.1 hd ht (fun q => kt q p l e s m args below meth c H locs ls C hu hv hP hD hS hl) (fun q => kf q p l e s m args below meth c H locs ls C hu hv hP hD hS hl)
theorem rw_icmp_gt {x y : Int32} {off : Int} {tgt : Nat} (hd : decode cc pc = .ok (.if_icmp .gt off, 3)) (ht : (pc : Int) + off = (tgt : Int)) (kt : y < x → RW w d cu su mc ms cc own nL ret Z tgt lv st M) (kf : ¬ y < x → RW w d cu su mc ms cc own nL ret Z (pc + 3) lv st M) : RW w d cu su mc ms cc own nL ret Z pc lv (.int y :: .int x :: st) M :=
  fun p l e s m args below meth c H locs ls C hu hv hP hD hS hl => lv_icmp_gt C.1 C.2.1 hd ht (fun q => kt q p l e s m args below meth c H locs ls C hu hv hP hD hS hl) (fun q => kf q p l e s m args below meth c H locs ls C hu hv hP hD hS hl)
theorem rw_if_le {x : Int32} {off : Int} {tgt : Nat} (hd : decode cc pc = .ok (.ifCond .le off, 3)) (ht : (pc : Int) + off = (tgt : Int)) (kt : x ≤ 0 → RW w d cu su mc ms cc own nL ret Z tgt lv st M) (kf : ¬ x ≤ 0 → RW w d cu su mc ms cc own nL ret Z (pc + 3) lv st M) : RW w d cu su mc ms cc own nL ret Z pc lv (.int x :: st) M :=
  fun p l e s m args below meth c H locs ls C hu hv hP hD hS hl => lv_if_le C.1 C.2.1 hd ht (fun q => kt q p l e s m args below meth c H locs ls C hu hv hP hD hS hl) (fun q => kf q p l e s m args below meth c H locs ls C hu hv hP hD hS hl)
theorem rw_icmp_le {x y : Int32} {off : Int} {tgt : Nat} (hd : decode cc pc = .ok (.if_icmp .le off, 3)) (ht : (pc : Int) + off = (tgt : Int)) (kt : x ≤ y → RW w d cu su mc ms cc own nL ret Z tgt lv st M) (kf : ¬ x ≤ y → RW w d cu su mc ms cc own nL ret Z (pc + 3) lv st M) : RW w d cu su mc ms cc own nL ret Z pc lv (.int y :: .int x :: st) M :=
  fun p l e s m args below meth c H locs ls C hu hv hP hD hS hl => lv_icmp_le C.1 C.2.1 hd ht (fun q => kt q p l e s m args below meth c H locs ls C hu hv hP hD hS hl) (fun q => kf q p l e s m args below meth c H locs ls C hu hv hP hD hS hl)
theorem rw_goto {off : Int} {tgt : Nat} (hd : decode cc pc = .ok (.goto off, 3)) (ht : (pc : Int) + off = (tgt : Int)) (k : RW w d cu su mc ms cc own nL ret Z tgt lv st M) : RW w d cu su mc ms cc own nL ret Z pc lv st M :=
  fun p l e s m args below meth c H locs ls C hu hv hP hD hS hl => lv_goto C.1 C.2.1 hd ht (k p l e s m args below meth c H locs ls C hu hv hP hD hS hl)
theorem rw_ifnull {x : Option Nat} {off : Int} {tgt : Nat} (hd : decode cc pc = .ok (.ifnull off, 3)) (ht : (pc : Int) + off = (tgt : Int)) (kt : x = none → RW w d cu su mc ms cc own nL ret Z tgt lv st M) (kf : ¬ x = none → RW w d cu su mc ms cc own nL ret Z (pc + 3) lv st M) : RW w d cu su mc ms cc own nL ret Z pc lv (va_rf x :: st) M := by
  intro p l e s m args below meth c H locs ls C hu hv hP hD hS hl
  cases x with
  | none => exact lv_ifnullN C.1 C.2.1 hd ht (kt rfl p l e s m args below meth c H locs ls C hu hv hP hD hS hl)
  | some a => exact lv_ifnull C.1 C.2.1 hd (kf (by simp) p l e s m args below meth c H locs ls C hu hv hP hD hS hl)
theorem rw_ifnonnull {x : Option Nat} {off : Int} {tgt : Nat} (hd : decode cc pc = .ok (.ifnonnull off, 3)) (ht : (pc : Int) + off = (tgt : Int)) (kt : ¬ x = none → RW w d cu su mc ms cc own nL ret Z tgt lv st M) (kf : x = none → RW w d cu su mc ms cc own nL ret Z (pc + 3) lv st M) : RW w d cu su mc ms cc own nL ret Z pc lv (va_rf x :: st) M := by
  intro p l e s m args below meth c H locs ls C hu hv hP hD hS hl
  cases x with
  | none => exact lv_ifnonnullN C.1 C.2.1 hd (kf rfl p l e s m args below meth c H locs ls C hu hv hP hD hS hl)
  | some a => exact lv_ifnonnull C.1 C.2.1 hd ht (kt (by simp) p l e s m args below meth c H locs ls C hu hv hP hD hS hl)
theorem rw_table {dflt lo hi : Int} {offs : Array Int} {len : Nat} {x : Int32} (hd : decode cc pc = .ok (.tableswitch dflt lo hi offs, len)) (ko : (x.toInt < lo ∨ hi < x.toInt) → ∃ tgt : Nat, (pc : Int) + dflt = (tgt : Int) ∧ RW w d cu su mc ms cc own nL ret Z tgt lv st M) (ki : ¬ x.toInt < lo → ¬ hi < x.toInt → ∃ (off : Int) (tgt : Nat), offs[(x.toInt - lo).toNat]? = some off ∧ (pc : Int) + off = (tgt : Int) ∧ RW w d cu su mc ms cc own nL ret Z tgt lv st M) : RW w d cu su mc ms cc own nL ret Z pc lv (.int x :: st) M := by
  intro p l e s m args below meth c H locs ls C hu hv hP hD hS hl
  by_cases h1 : x.toInt < lo
  · obtain ⟨tgt, ht, k⟩ := ko (Or.inl h1)
    exact lv_tableOut C.1 C.2.1 hd (Or.inl h1) ht (k p l e s m args below meth c H locs ls C hu hv hP hD hS hl)
  · by_cases h2 : hi < x.toInt
    · obtain ⟨tgt, ht, k⟩ := ko (Or.inr h2)
      exact lv_tableOut C.1 C.2.1 hd (Or.inr h2) ht (k p l e s m args below meth c H locs ls C hu hv hP hD hS hl)
    · obtain ⟨off, tgt, ho, ht, k⟩ := ki h1 h2
      exact lv_tableIn C.1 C.2.1 hd h1 h2 ho ht (k p l e s m args below meth c H locs ls C hu hv hP hD hS hl)
theorem rw_lookup {dflt : Int} {ps : Array (Int × Int)} {len : Nat} {x : Int32} {off : Int} {tgt : Nat} (hd : decode cc pc = .ok (.lookupswitch dflt ps, len)) (hp : (ps.toList.zip (ps.toList.drop 1)).all (fun (a, next) => a.1 < next.1) = true) (ho : Op.lookupswitch.offset ps.toList dflt x.toInt = off) (ht : (pc : Int) + off = (tgt : Int)) (k : RW w d cu su mc ms cc own nL ret Z tgt lv st M) : RW w d cu su mc ms cc own nL ret Z pc lv (.int x :: st) M :=
  fun p l e s m args below meth c H locs ls C hu hv hP hD hS hl => lv_lookup C.1 C.2.1 hd hp ho ht (k p l e s m args below meth c H locs ls C hu hv hP hD hS hl)
/-- a field by a class's pool: field j of class ci -/
def bw_FL (own : String) (idx ci j : Nat) : Prop := ∃ (C : String) (T : u_T) (N : Nat), vwCl[ci]? = some (C, T, N) ∧ j < N ∧ (∀ x ∈ u_ws C T N, x ∈ lw_gd) ∧ Cond.fieldLink own idx (T j).1 (T j).2.1 (T j).2.2.1 ∈ lw_gd
def bw_FP (ci j : Nat) (ty : FieldType) : Prop := ∃ (C : String) (T : u_T) (N : Nat) (t : Nat → FieldType), vwCl[ci]? = some (C, T, N) ∧ (∀ k, k < N → parseFieldDescriptor (T k).2.2.1 = some (t k)) ∧ (∀ a, a < N → ∀ b, b < N → a ≠ b → (T a).2.1 ≠ (T b).2.1) ∧ (T j).2.2.2 = false ∧ t j = ty ∧ j < N
theorem rw_get {k j ci idx : Nat} {v : Value} {F : (Nat → Int32) → List Value} (hd : decode cc pc = .ok (.getfield idx, 3)) (hf : bw_FL own idx ci j) (hsh : ∀ r, bw_E w k r = .inr (ci, F r)) (hk : k < bw_nn M) (hv0 : (F (M k))[j]? = some v) (kk : RW w d cu su mc ms cc own nL ret Z (pc + 3) lv (v :: st) M) : RW w d cu su mc ms cc own nL ret Z pc lv (.ref (bw_ad w k) :: st) M := by
  intro p l e s m args below meth c H locs ls C hu hv hP hD hS hl
  obtain ⟨Cn, T, N, h1, h2, h3, h4⟩ := hf
  exact va_get C.1 C.2.1 C.2.2.2.2.1 h3 C.2.2.2.1 C.2.2.2.2.2.2.2.1 hP k (by rw [bw_get hk, hsh]) h1 j h2 (C.2.2.2.2.1 _ h4) (fun _ h => h) hv0 hd (kk p l e s m args below meth c H locs ls C hu hv hP hD hS hl)
theorem rw_put {k j ci idx : Nat} {x : Int32} {v : Value} {ty : FieldType} {F : (Nat → Int32) → List Value} (hd : decode cc pc = .ok (.putfield idx, 3)) (hf : bw_FL own idx ci j) (hq : bw_FP ci j ty) (hsh : ∀ r, bw_E w k r = .inr (ci, F r)) (hk : k < bw_nn M) (hn : narrow ty v = v) (hfit : fits ty v = true) (hj : j < 1000) (hset : ∀ r, F (upd r j x) = (F r).set j v) (hlen : ∀ r, j < (F r).length) (kk : RW w d cu su mc ms cc own nL ret Z (pc + 3) lv st (bw_up M k j x)) : RW w d cu su mc ms cc own nL ret Z pc lv (v :: .ref (bw_ad w k) :: st) M := by
  intro p l e s m args below meth c H locs ls C hu hv hP hD hS hl
  obtain ⟨Cn, T, N, h1, h2, h3, h4⟩ := hf
  obtain ⟨Cn2, T2, N2, t, g1, g2, g3, g4, g5, g6⟩ := hq
  have e := Option.some.inj (h1.symm.trans g1)
  cases e
  refine va_put (v := v) (ty := ty) C.1 C.2.1 C.2.2.2.2.1 h3 t g2 g3 C.2.2.2.1 C.2.2.2.2.2.2.2.1 hP hD hS k (by rw [bw_get hk, hsh]) h1 j h2 (C.2.2.2.2.1 _ h4) (fun _ h => h) g4 (by rw [g2 j h2, g5]) hn hfit (hlen _) hd (fun H1 locs1 hP1 hD1 hS1 => ?_)
  have es := bw_set (w := w) (M := M) (k := k) (i := j) (x := x) (e := .inr (ci, (F (M k)).set j v)) (by omega) (by rw [hsh, hset])
  rw [es] at hP1 hD1
  exact kk p l e s m args below meth c H1 locs1 ls C hu hv hP1 hD1 hS1 hl
theorem rw_iald {k n : Nat} {i : Int32} (hd : decode cc pc = .ok (.iaload, 1)) (hsh : ∀ r, bw_E w k r = .inl (bw_ca w 0, n, .inl r)) (hk : k < bw_nn M) (hin : vp_in i n) (kk : RW w d cu su mc ms cc own nL ret Z (pc + 1) lv (.int (M k i.toNatClampNeg) :: st) M) : RW w d cu su mc ms cc own nL ret Z pc lv (.int i :: .ref (bw_ad w k) :: st) M := by
  intro p l e s m args below meth c H locs ls C hu hv hP hD hS hl
  exact va_iald C.1 C.2.1 C.2.2.2.2.2.2.2.1 hP k 0 (by rw [bw_get hk, hsh]) rfl hin hd (kk p l e s m args below meth c H locs ls C hu hv hP hD hS hl)
theorem rw_zald {k n : Nat} {i : Int32} (hd : decode cc pc = .ok (.baload, 1)) (hsh : ∀ r, bw_E w k r = .inl (bw_ca w 1, n, .inl r)) (hk : k < bw_nn M) (hin : vp_in i n) (kk : RW w d cu su mc ms cc own nL ret Z (pc + 1) lv (.int (M k i.toNatClampNeg) :: st) M) : RW w d cu su mc ms cc own nL ret Z pc lv (.int i :: .ref (bw_ad w k) :: st) M := by
  intro p l e s m args below meth c H locs ls C hu hv hP hD hS hl
  exact va_zald C.1 C.2.1 C.2.2.2.2.2.2.2.1 hP k 1 (by rw [bw_get hk, hsh]) rfl hin hd (kk p l e s m args below meth c H locs ls C hu hv hP hD hS hl)
theorem rw_cald {k n : Nat} {i : Int32} (hd : decode cc pc = .ok (.caload, 1)) (hsh : ∀ r, bw_E w k r = .inl (bw_ca w 2, n, .inl r)) (hk : k < bw_nn M) (hin : vp_in i n) (kk : RW w d cu su mc ms cc own nL ret Z (pc + 1) lv (.int (M k i.toNatClampNeg) :: st) M) : RW w d cu su mc ms cc own nL ret Z pc lv (.int i :: .ref (bw_ad w k) :: st) M := by
  intro p l e s m args below meth c H locs ls C hu hv hP hD hS hl
  exact va_cald C.1 C.2.1 C.2.2.2.2.2.2.2.1 hP k 2 (by rw [bw_get hk, hsh]) rfl hin hd (kk p l e s m args below meth c H locs ls C hu hv hP hD hS hl)
theorem rw_iast {k n : Nat} {i x : Int32} (hd : decode cc pc = .ok (.iastore, 1)) (hsh : ∀ r, bw_E w k r = .inl (bw_ca w 0, n, .inl r)) (hk : k < bw_nn M) (hin : vp_in i n) (kk : RW w d cu su mc ms cc own nL ret Z (pc + 1) lv st (bw_up M k i.toNatClampNeg x)) : RW w d cu su mc ms cc own nL ret Z pc lv (.int x :: .int i :: .ref (bw_ad w k) :: st) M := by
  intro p l e s m args below meth c H locs ls C hu hv hP hD hS hl
  refine va_iast C.1 C.2.1 C.2.2.2.2.2.2.2.1 hP hD hS k 0 (by rw [bw_get hk, hsh]) rfl hin hd (fun H1 locs1 hP1 hD1 hS1 => ?_)
  rw [bw_set (bw_ng hsh) (hsh _)] at hP1 hD1
  exact kk p l e s m args below meth c H1 locs1 ls C hu hv hP1 hD1 hS1 hl
def bw_nz (x : Int32) : Int32 := vp_nar .boolean x
theorem rw_zast {k n : Nat} {i x : Int32} (hd : decode cc pc = .ok (.bastore, 1)) (hsh : ∀ r, bw_E w k r = .inl (bw_ca w 1, n, .inl r)) (hk : k < bw_nn M) (hin : vp_in i n) (kk : RW w d cu su mc ms cc own nL ret Z (pc + 1) lv st (bw_up M k i.toNatClampNeg (bw_nz x))) : RW w d cu su mc ms cc own nL ret Z pc lv (.int x :: .int i :: .ref (bw_ad w k) :: st) M := by
  intro p l e s m args below meth c H locs ls C hu hv hP hD hS hl
  refine va_zast C.1 C.2.1 C.2.2.2.2.2.2.2.1 hP hD hS k 1 (by rw [bw_get hk, hsh]) rfl hin hd (fun H1 locs1 hP1 hD1 hS1 => ?_)
  rw [bw_set (bw_ng hsh) (hsh _)] at hP1 hD1
  exact kk p l e s m args below meth c H1 locs1 ls C hu hv hP1 hD1 hS1 hl
theorem rw_alen {k n ty : Nat} {v : Int32} {g : (Nat → Int32) → ((Nat → Int32) ⊕ (Nat → Int64) ⊕ (Nat → UInt32) ⊕ (Nat → UInt64) ⊕ (Nat → Option Nat))} (hd : decode cc pc = .ok (.arraylength, 1)) (hsh : ∀ r, bw_E w k r = .inl (bw_ca w ty, n, g r)) (ht : ty < 7) (hk : k < bw_nn M) (hv0 : Int32.ofNat n = v) (kk : RW w d cu su mc ms cc own nL ret Z (pc + 1) lv (.int v :: st) M) : RW w d cu su mc ms cc own nL ret Z pc lv (.ref (bw_ad w k) :: st) M := by
  intro p l e s m args below meth c H locs ls C hu hv hP hD hS hl
  have h7 : ∃ t, (bw_T w)[ty]? = some (bw_ca w ty, t) := by
    rcases (show ty = 0 ∨ ty = 1 ∨ ty = 2 ∨ ty = 3 ∨ ty = 4 ∨ ty = 5 ∨ ty = 6 by omega) with rfl | rfl | rfl | rfl | rfl | rfl | rfl <;> exact ⟨_, rfl⟩
  obtain ⟨t, h7⟩ := h7
  exact va_alen C.1 C.2.1 C.2.2.2.2.2.2.2.1 hP k ty (by rw [bw_get hk, hsh]) h7 hv0 hd (kk p l e s m args below meth c H locs ls C hu hv hP hD hS hl)
theorem rw_aald {k n ty : Nat} {i : Int32} {f : (Nat → Int32) → Nat → Option Nat} {Cn : String} (hd : decode cc pc = .ok (.aaload, 1)) (hsh : ∀ r, bw_E w k r = .inl (bw_ca w ty, n, .inr (.inr (.inr (.inr (f r)))))) (ht : (bw_T w)[ty]? = some (bw_ca w ty, .object Cn)) (hk : k < bw_nn M) (hin : vp_in i n) (kk : RW w d cu su mc ms cc own nL ret Z (pc + 1) lv (va_rf (f (M k) i.toNatClampNeg) :: st) M) : RW w d cu su mc ms cc own nL ret Z pc lv (.int i :: .ref (bw_ad w k) :: st) M := by
  intro p l e s m args below meth c H locs ls C hu hv hP hD hS hl
  exact va_aldq C.1 C.2.1 C.2.2.2.2.2.2.2.1 hP k ty (by rw [bw_get hk, hsh]) ht hin hd (kk p l e s m args below meth c H locs ls C hu hv hP hD hS hl)
theorem rw_iret {post : Option Value → Mem → Prop} {v : Int32} (hd : decode cc pc = .ok (.ireturn, 1)) (hp : post (some (.int v)) M) : RW w d mc ms mc ms cc own nL (some .int) (bw_Z w post) pc lv [.int v] M := by
  intro p l e s m args below meth c H locs ls C hu hv hP hD hS hl
  exact W.iret (v := v) C.1 C.2.1 C.2.2.2.2.2.1 (fun t ht hW => ⟨⟨_, rfl, M, hp, by rw [ht]; exact hP, hD⟩, hS.F ht⟩) hS.2.2 hd C.2.2.2.2.2.2.1
theorem rw_zret {post : Option Value → Mem → Prop} {v : Int32} (hd : decode cc pc = .ok (.ireturn, 1)) (hn : narrow .boolean (.int v) = .int v) (hp : post (some (.int v)) M) : RW w d mc ms mc ms cc own nL (some .boolean) (bw_Z w post) pc lv [.int v] M := by
  intro p l e s m args below meth c H locs ls C hu hv hP hD hS hl
  exact W.zret (v := v) C.1 C.2.1 C.2.2.2.2.2.1 hn (fun t ht hW => ⟨⟨_, rfl, M, hp, by rw [ht]; exact hP, hD⟩, hS.F ht⟩) hS.2.2 hd C.2.2.2.2.2.2.1
theorem rw_vret {post : Option Value → Mem → Prop} (hd : decode cc pc = .ok (.return_, 1)) (hp : post (none) M) : RW w d mc ms mc ms cc own nL none (bw_Z w post) pc lv [] M := by
  intro p l e s m args below meth c H locs ls C hu hv hP hD hS hl
  exact W.vret C.1 C.2.1 C.2.2.2.2.2.1 (fun t ht hW => ⟨⟨_, rfl, M, hp, by rw [ht]; exact hP, hD⟩, hS.F ht⟩) hS.2.2 hd C.2.2.2.2.2.2.1
theorem rw_aret {post : Option Value → Mem → Prop} {v : Value} {rt : FieldType} (hd : decode cc pc = .ok (.areturn, 1)) (hrt : (∃ n, rt = .object n) ∨ ∃ t, rt = .array t) (hv0 : v = .null ∨ ∃ a, v = .ref a) (hp : post (some v) M) : RW w d mc ms mc ms cc own nL (some rt) (bw_Z w post) pc lv [v] M := by
  intro p l e s m args below meth c H locs ls C hu hv hP hD hS hl
  exact W.aret (v := v) C.1 C.2.1 C.2.2.2.2.2.1 hrt hv0 (fun t ht hW => ⟨⟨_, rfl, M, hp, by rw [ht]; exact hP, hD⟩, hS.F ht⟩) hS.2.2 hd C.2.2.2.2.2.2.1
def bw_max (x y : Int32) : Int32 := if x < y then y else x
theorem rw_mmax {idx : Nat} {x y : Int32} (hd : decode cc pc = .ok (.invokestatic idx, 3)) (hl0 : Cond.methodLink own idx Lib.Math.max.name ∈ lw_gd) (h1 : Cond.static Lib.Math.max.name ∈ lw_gd) (h2 : Cond.initialized "java/lang/Math" ∈ lw_gd) (h3 : Cond.code Lib.Math.max.name Lib.Math.max.code 2 (some .int) ∈ lw_gd) (hdd : 1 ≤ d) (hst : (st.map fun v => v.category).sum ≤ 8) (kk : RW w d cu su mc ms cc own nL ret Z (pc + 3) lv (.int (bw_max x y) :: st) M) : RW w d cu su mc ms cc own nL ret Z pc lv (.int y :: .int x :: st) M := by
  intro p l e s m args below meth c H locs ls C hu hv hP hD hS hl
  refine va_mmax C.1 C.2.1 (C.2.2.1.trans hl.1.symm) C.2.2.2.1 (C.2.2.2.2.1 _ hl0) (C.2.2.2.2.1 _ h1) (C.2.2.2.2.1 _ h2) (C.2.2.2.2.1 _ h3) hdd ?_ hu hv hd (kk p l e s m args below meth c H locs ls C hu hv hP hD hS hl)
  show _ ≤ 40 * d
  omega
def bw_min (x y : Int32) : Int32 := if y < x then y else x
theorem rw_mmin {idx : Nat} {x y : Int32} (hd : decode cc pc = .ok (.invokestatic idx, 3)) (hl0 : Cond.methodLink own idx Lib.Math.min.name ∈ lw_gd) (h1 : Cond.static Lib.Math.min.name ∈ lw_gd) (h2 : Cond.initialized "java/lang/Math" ∈ lw_gd) (h3 : Cond.code Lib.Math.min.name Lib.Math.min.code 2 (some .int) ∈ lw_gd) (hdd : 1 ≤ d) (hst : (st.map fun v => v.category).sum ≤ 8) (kk : RW w d cu su mc ms cc own nL ret Z (pc + 3) lv (.int (bw_min x y) :: st) M) : RW w d cu su mc ms cc own nL ret Z pc lv (.int y :: .int x :: st) M := by
  intro p l e s m args below meth c H locs ls C hu hv hP hD hS hl
  refine va_mmin C.1 C.2.1 (C.2.2.1.trans hl.1.symm) C.2.2.2.1 (C.2.2.2.2.1 _ hl0) (C.2.2.2.2.1 _ h1) (C.2.2.2.2.1 _ h2) (C.2.2.2.2.1 _ h3) hdd ?_ hu hv hd (kk p l e s m args below meth c H locs ls C hu hv hP hD hS hl)
  show _ ≤ 40 * d
  omega
/-- what the tables say of a callee -/
def bw_MS (y : MethodName) (cc' : ByteArray) (nL' : Nat) (ret' : Option FieldType) (np : Nat) : Prop := Cond.code y cc' nL' ret' ∈ lw_gd ∧ Cond.initialized y.cls ∈ lw_gd ∧ Cond.static y ∈ lw_gd ∧ (y.cls ≠ "java/lang/invoke/MethodHandle" ∧ y.cls ≠ "java/lang/invoke/VarHandle" ∧ (parseMethodDescriptor y.desc).map (fun d => d.parameters.length) = some np) ∧ nL' ≤ 21
def bw_MV (y : MethodName) (cc' : ByteArray) (nL' : Nat) (ret' : Option FieldType) (np ci : Nat) : Prop := Cond.code y cc' nL' ret' ∈ lw_gd ∧ Cond.initialized y.cls ∈ lw_gd ∧ Cond.instanceMethod y ∈ lw_gd ∧ Cond.selects y.cls y y ∈ lw_gd ∧ (y.cls ≠ "java/lang/invoke/MethodHandle" ∧ y.cls ≠ "java/lang/invoke/VarHandle" ∧ (parseMethodDescriptor y.desc).map (fun d => d.parameters.length) = some np) ∧ (∃ q : vw_C, vwCl[ci]? = some q ∧ q.1 = y.cls) ∧ nL' ≤ 21
theorem bw_gi {y : MethodName} {cc' : ByteArray} {nL' : Nat} {ret' : Option FieldType} (h : Cond.code y cc' nL' ret' ∈ lw_gd) : GoodIn lw_gd (Cond.code y cc' nL' ret' :: lw_gd) := by
  intro x hx
  rcases List.mem_cons.mp hx with rfl | hx
  · exact ⟨h, bw_good _ h⟩
  · exact ⟨hx, bw_good _ hx⟩
theorem bw_blind {w : WE} {M : Mem} {As : List Value} : FrameBlind (va_Pc As (bw_Pre w M)) := by
  intro a U g mk q
  obtain ⟨q0, qP, qK, qD, qz, qO⟩ := q
  exact ⟨q0, qP, va_K.moved (u := U) (U := U.calling g mk a) (Vm.Alike.refl U.vm) qK, qD, qz, bw_Old.same (u := U) rfl qO⟩
theorem bw_pre {s : State} {p : Program} {m : MethodId} {args : Array Value} {meth : Method} {c : Code} {H : Heap} {locs : List Loc} {As : List Value} (C : bw_CX w d mc ms cc own nL ret p s m args meth c) (hP : va_P (bw_d w) vwCl (bw_W w M) H) (hD : va_D (bw_A w) (bw_W w M)) (hS : va_S (bw_A w) s.heap H locs) : ∀ U : State, U.heap = H → s.WarmedH U.vm → va_Pc As (bw_Pre w M) As.toArray U := by
  intro U hU hW
  have hz := C.2.2.2.2.2.2.2.2.1
  exact ⟨rfl, by rw [hU]; exact hP, va_K.moved hW.alike C.2.2.2.2.2.2.2.1, hD, by rw [hU]; exact Nat.le_trans hz hS.1, by rw [hU]; exact C.2.2.2.2.2.2.2.2.2.go hW hS.2.1⟩
/-- behind a call -/
theorem bw_back {s : State} {p : Program} {l : Launch} {e : Env} {m : MethodId} {args a : Array Value} {below : List Frame} {meth : Method} {c : Code} {H : Heap} {locs : List Loc} {ls : Array Slot} {Z' : Option Value → Heap → Prop} {mc' ms' : Nat} {rest st0 : List Value} {Qf : State → Prop} {w' : WE}
    (hr : va_Run p l e (bw_rm d mc ms) s m args below meth c H locs cu su mc' ms' (F0 m pc ls st0) rest (bw_Q w Z' a) (bw_A w)) (hS : va_S (bw_A w) s.heap H locs)
    (kk : ∀ (r : Option Value) (H1 : Heap) (locs1 : List Loc), Z' r H1 → va_S (bw_A w) s.heap H1 locs1 → W p l e (bw_rm d mc ms) s m args below meth c H1 locs1 (cu + mc') (su + ms') Qf (F0 m (pc + 3) ls (r.toList ++ rest))) : W p l e (bw_rm d mc ms) s m args below meth c H locs cu su Qf (F0 m pc ls st0) := by
  intro T hT X
  obtain ⟨v, st₀, t, T', L, h0, X', hL, e1, e2, ⟨⟨r, hv, hz⟩, hz1, hk⟩, sg⟩ := hr T hT X
  cases hv
  rw [h0] at hz1 hk
  obtain ⟨t2, a1, b1⟩ := kk v T'.heap (locs ++ L) (by rw [e1]; exact hz)
    ⟨Nat.le_trans hS.1 (by rw [e1]; exact hz1), fun q h1 h2 => by rw [e1, hk q (Nat.lt_of_lt_of_le h1 hS.1) h2]; exact hS.2.1 q h1 h2, fun q hq => by
      rcases List.mem_append.mp hq with h | h
      · exact hS.2.2 q h
      · exact hL q h⟩ T' rfl X'
  exact ⟨t2, sg t2 a1, b1⟩
theorem rw_callV0 {d' k idx ci : Nat} {y : MethodName} {cc' : ByteArray} {nL' : Nat} {ret' : Option FieldType} {post : Option Value → Mem → Prop} {F : (Nat → Int32) → List Value} (hd : decode cc pc = .ok (.invokevirtual idx, 3)) (hl0 : Cond.methodLink own idx y ∈ lw_gd) (hm : bw_MV y cc' nL' ret' 0 ci) (hsh : ∀ r, bw_E w k r = .inr (ci, F r)) (hk : k < bw_nn M) (hc : Ct w d' y cc' nL' ret' [.ref (bw_ad w k)] M post) (hdd : d' + 1 ≤ d) (hst : (st.map fun v => v.category).sum ≤ 8)
    (kk : ∀ (r : Option Value) (M' : Mem), post r M' → RW w d cu su mc ms cc own nL ret Z (pc + 3) lv (r.toList ++ st) M') : RW w d cu su mc ms cc own nL ret Z pc lv (.ref (bw_ad w k) :: st) M := by
  intro p l e s m args below meth c H locs ls C hu hv hP hD hS hl
  obtain ⟨m1, m2, m3, m4, m5, ⟨q, m6, m7⟩, m8⟩ := hm
  have hts := C.2.2.2.2.1
  have hrv := va_recv (q := q) C.2.2.2.2.2.2.2.1 hP m6 (q0 := k) (a := bw_ad w k) (fs := F (M k)) (by rw [bw_get hk, hsh])
  rw [m7] at hrv
  refine bw_back (w' := w) (va_runV (As := []) (rest := st) (own := own) (C := y.cls) (n := 0) (index := idx) (bytes := cc') (maxL := nL') (ret := ret') ⟨C.1, C.2.1, C.2.2.1, C.2.2.2.1, hts⟩ (hc l) ⟨callB_of 0 hts (bw_gi m1) rfl rfl rfl (hts _ m2) (hts _ hl0) m5 ⟨hdd, by show 8 + (nL' + 11) + 40 * d' ≤ 40 * d; omega⟩, hts _ m3, hts _ m4⟩ ⟨bw_blind, hrv, bw_pre C hP hD hS⟩ rfl rfl hl.1 rfl (lv_room hst) hd ⟨hu, hv⟩) hS (fun r H1 locs1 hz hS1 => ?_)
  obtain ⟨M1, hp1, hP1, hD1⟩ := hz
  exact kk r M1 hp1 p l e s m args below meth c H1 locs1 ls C hu hv hP1 hD1 hS1 hl
theorem rw_callV1 {d' k idx ci : Nat} {y : MethodName} {cc' : ByteArray} {nL' : Nat} {ret' : Option FieldType} {post : Option Value → Mem → Prop} {F : (Nat → Int32) → List Value} {x1 : Value} (hd : decode cc pc = .ok (.invokevirtual idx, 3)) (hl0 : Cond.methodLink own idx y ∈ lw_gd) (hm : bw_MV y cc' nL' ret' 1 ci) (hsh : ∀ r, bw_E w k r = .inr (ci, F r)) (hk : k < bw_nn M) (hc : Ct w d' y cc' nL' ret' [.ref (bw_ad w k), x1] M post) (hdd : d' + 1 ≤ d) (hst : (st.map fun v => v.category).sum ≤ 8)
    (kk : ∀ (r : Option Value) (M' : Mem), post r M' → RW w d cu su mc ms cc own nL ret Z (pc + 3) lv (r.toList ++ st) M') : RW w d cu su mc ms cc own nL ret Z pc lv (x1 :: .ref (bw_ad w k) :: st) M := by
  intro p l e s m args below meth c H locs ls C hu hv hP hD hS hl
  obtain ⟨m1, m2, m3, m4, m5, ⟨q, m6, m7⟩, m8⟩ := hm
  have hts := C.2.2.2.2.1
  have hrv := va_recv (q := q) C.2.2.2.2.2.2.2.1 hP m6 (q0 := k) (a := bw_ad w k) (fs := F (M k)) (by rw [bw_get hk, hsh])
  rw [m7] at hrv
  refine bw_back (w' := w) (va_runV (As := [x1]) (rest := st) (own := own) (C := y.cls) (n := 1) (index := idx) (bytes := cc') (maxL := nL') (ret := ret') ⟨C.1, C.2.1, C.2.2.1, C.2.2.2.1, hts⟩ (hc l) ⟨callB_of 1 hts (bw_gi m1) rfl rfl rfl (hts _ m2) (hts _ hl0) m5 ⟨hdd, by show 8 + (nL' + 11) + 40 * d' ≤ 40 * d; omega⟩, hts _ m3, hts _ m4⟩ ⟨bw_blind, hrv, bw_pre C hP hD hS⟩ rfl rfl hl.1 rfl (lv_room hst) hd ⟨hu, hv⟩) hS (fun r H1 locs1 hz hS1 => ?_)
  obtain ⟨M1, hp1, hP1, hD1⟩ := hz
  exact kk r M1 hp1 p l e s m args below meth c H1 locs1 ls C hu hv hP1 hD1 hS1 hl
theorem rw_callS1 {d' idx : Nat} {y : MethodName} {cc' : ByteArray} {nL' : Nat} {ret' : Option FieldType} {post : Option Value → Mem → Prop} {x1 : Value} (hd : decode cc pc = .ok (.invokestatic idx, 3)) (hl0 : Cond.methodLink own idx y ∈ lw_gd) (hm : bw_MS y cc' nL' ret' 1) (hc : Ct w d' y cc' nL' ret' [x1] M post) (hdd : d' + 1 ≤ d) (hst : (st.map fun v => v.category).sum ≤ 8)
    (kk : ∀ (r : Option Value) (M' : Mem), post r M' → RW w d cu su mc ms cc own nL ret Z (pc + 3) lv (r.toList ++ st) M') : RW w d cu su mc ms cc own nL ret Z pc lv (x1 :: st) M := by
  intro p l e s m args below meth c H locs ls C hu hv hP hD hS hl
  obtain ⟨m1, m2, m3, m5, m8⟩ := hm
  have hts := C.2.2.2.2.1
  refine bw_back (w' := w) (va_runS (As := [x1]) (rest := st) (own := own) (n := 1) (index := idx) (bytes := cc') (maxL := nL') (ret := ret') ⟨C.1, C.2.1, C.2.2.1, C.2.2.2.1, hts⟩ (hc l) ⟨callB_of 1 hts (bw_gi m1) rfl rfl rfl (hts _ m2) (hts _ hl0) m5 ⟨hdd, by show 8 + (nL' + 11) + 40 * d' ≤ 40 * d; omega⟩, hts _ m3⟩ ⟨bw_blind, bw_pre C hP hD hS⟩ rfl rfl hl.1 rfl (lv_room hst) hd ⟨hu, hv⟩) hS (fun r H1 locs1 hz hS1 => ?_)
  obtain ⟨M1, hp1, hP1, hD1⟩ := hz
  exact kk r M1 hp1 p l e s m args below meth c H1 locs1 ls C hu hv hP1 hD1 hS1 hl
theorem rw_callN1 {d' idx : Nat} {host : String} {y : MethodName} {cc' : ByteArray} {nL' : Nat} {ret' : Option FieldType} {post : Option Value → Mem → Prop} {x1 : Value} (hd : decode cc pc = .ok (.invokestatic idx, 3)) (hl0 : (own, idx, y, host) ∈ bw_nest) (hm : bw_MS y cc' nL' ret' 1) (hc : Ct w d' y cc' nL' ret' [x1] M post) (hdd : d' + 1 ≤ d) (hst : (st.map fun v => v.category).sum ≤ 8)
    (kk : ∀ (r : Option Value) (M' : Mem), post r M' → RW w d cu su mc ms cc own nL ret Z (pc + 3) lv (r.toList ++ st) M') : RW w d cu su mc ms cc own nL ret Z pc lv (x1 :: st) M := by
  intro p l e s m args below meth c H locs ls C hu hv hP hD hS hl
  obtain ⟨m1, m2, m3, m5, m8⟩ := hm
  have hts := C.2.2.2.2.1
  refine bw_back (w' := w) (va_runSN (As := [x1]) (rest := st) (own := own) (host := host) (n := 1) (index := idx) (bytes := cc') (maxL := nL') (ret := ret') ⟨C.1, C.2.1, C.2.2.1, C.2.2.2.1, hts⟩ (hc l) ⟨va_cnB 1 hts (bw_gi m1) rfl rfl rfl (C.2.2.2.2.2.2.2.2.2.2.2.2.2.2.2.2 _ hl0) (hts _ m2) m5 ⟨hdd, by show 8 + (nL' + 11) + 40 * d' ≤ 40 * d; omega⟩, hts _ m3, trivial⟩ ⟨bw_blind, bw_pre C hP hD hS⟩ rfl rfl hl.1 rfl (lv_room hst) hd ⟨hu, hv⟩) hS (fun r H1 locs1 hz hS1 => ?_)
  obtain ⟨M1, hp1, hP1, hD1⟩ := hz
  exact kk r M1 hp1 p l e s m args below meth c H1 locs1 ls C hu hv hP1 hD1 hS1 hl
theorem rw_callV2 {d' k idx ci : Nat} {y : MethodName} {cc' : ByteArray} {nL' : Nat} {ret' : Option FieldType} {post : Option Value → Mem → Prop} {F : (Nat → Int32) → List Value} {x1 x2 : Value} (hd : decode cc pc = .ok (.invokevirtual idx, 3)) (hl0 : Cond.methodLink own idx y ∈ lw_gd) (hm : bw_MV y cc' nL' ret' 2 ci) (hsh : ∀ r, bw_E w k r = .inr (ci, F r)) (hk : k < bw_nn M) (hc : Ct w d' y cc' nL' ret' [.ref (bw_ad w k), x1, x2] M post) (hdd : d' + 1 ≤ d) (hst : (st.map fun v => v.category).sum ≤ 8)
    (kk : ∀ (r : Option Value) (M' : Mem), post r M' → RW w d cu su mc ms cc own nL ret Z (pc + 3) lv (r.toList ++ st) M') : RW w d cu su mc ms cc own nL ret Z pc lv (x2 :: x1 :: .ref (bw_ad w k) :: st) M := by
  intro p l e s m args below meth c H locs ls C hu hv hP hD hS hl
  obtain ⟨m1, m2, m3, m4, m5, ⟨q, m6, m7⟩, m8⟩ := hm
  have hts := C.2.2.2.2.1
  have hrv := va_recv (q := q) C.2.2.2.2.2.2.2.1 hP m6 (q0 := k) (a := bw_ad w k) (fs := F (M k)) (by rw [bw_get hk, hsh])
  rw [m7] at hrv
  refine bw_back (w' := w) (va_runV (As := [x1, x2]) (rest := st) (own := own) (C := y.cls) (n := 2) (index := idx) (bytes := cc') (maxL := nL') (ret := ret') ⟨C.1, C.2.1, C.2.2.1, C.2.2.2.1, hts⟩ (hc l) ⟨callB_of 2 hts (bw_gi m1) rfl rfl rfl (hts _ m2) (hts _ hl0) m5 ⟨hdd, by show 8 + (nL' + 11) + 40 * d' ≤ 40 * d; omega⟩, hts _ m3, hts _ m4⟩ ⟨bw_blind, hrv, bw_pre C hP hD hS⟩ rfl rfl hl.1 rfl (lv_room hst) hd ⟨hu, hv⟩) hS (fun r H1 locs1 hz hS1 => ?_)
  obtain ⟨M1, hp1, hP1, hD1⟩ := hz
  exact kk r M1 hp1 p l e s m args below meth c H1 locs1 ls C hu hv hP1 hD1 hS1 hl
theorem rw_callS2 {d' idx : Nat} {y : MethodName} {cc' : ByteArray} {nL' : Nat} {ret' : Option FieldType} {post : Option Value → Mem → Prop} {x1 x2 : Value} (hd : decode cc pc = .ok (.invokestatic idx, 3)) (hl0 : Cond.methodLink own idx y ∈ lw_gd) (hm : bw_MS y cc' nL' ret' 2) (hc : Ct w d' y cc' nL' ret' [x1, x2] M post) (hdd : d' + 1 ≤ d) (hst : (st.map fun v => v.category).sum ≤ 8)
    (kk : ∀ (r : Option Value) (M' : Mem), post r M' → RW w d cu su mc ms cc own nL ret Z (pc + 3) lv (r.toList ++ st) M') : RW w d cu su mc ms cc own nL ret Z pc lv (x2 :: x1 :: st) M := by
  intro p l e s m args below meth c H locs ls C hu hv hP hD hS hl
  obtain ⟨m1, m2, m3, m5, m8⟩ := hm
  have hts := C.2.2.2.2.1
  refine bw_back (w' := w) (va_runS (As := [x1, x2]) (rest := st) (own := own) (n := 2) (index := idx) (bytes := cc') (maxL := nL') (ret := ret') ⟨C.1, C.2.1, C.2.2.1, C.2.2.2.1, hts⟩ (hc l) ⟨callB_of 2 hts (bw_gi m1) rfl rfl rfl (hts _ m2) (hts _ hl0) m5 ⟨hdd, by show 8 + (nL' + 11) + 40 * d' ≤ 40 * d; omega⟩, hts _ m3⟩ ⟨bw_blind, bw_pre C hP hD hS⟩ rfl rfl hl.1 rfl (lv_room hst) hd ⟨hu, hv⟩) hS (fun r H1 locs1 hz hS1 => ?_)
  obtain ⟨M1, hp1, hP1, hD1⟩ := hz
  exact kk r M1 hp1 p l e s m args below meth c H1 locs1 ls C hu hv hP1 hD1 hS1 hl
theorem rw_callN2 {d' idx : Nat} {host : String} {y : MethodName} {cc' : ByteArray} {nL' : Nat} {ret' : Option FieldType} {post : Option Value → Mem → Prop} {x1 x2 : Value} (hd : decode cc pc = .ok (.invokestatic idx, 3)) (hl0 : (own, idx, y, host) ∈ bw_nest) (hm : bw_MS y cc' nL' ret' 2) (hc : Ct w d' y cc' nL' ret' [x1, x2] M post) (hdd : d' + 1 ≤ d) (hst : (st.map fun v => v.category).sum ≤ 8)
    (kk : ∀ (r : Option Value) (M' : Mem), post r M' → RW w d cu su mc ms cc own nL ret Z (pc + 3) lv (r.toList ++ st) M') : RW w d cu su mc ms cc own nL ret Z pc lv (x2 :: x1 :: st) M := by
  intro p l e s m args below meth c H locs ls C hu hv hP hD hS hl
  obtain ⟨m1, m2, m3, m5, m8⟩ := hm
  have hts := C.2.2.2.2.1
  refine bw_back (w' := w) (va_runSN (As := [x1, x2]) (rest := st) (own := own) (host := host) (n := 2) (index := idx) (bytes := cc') (maxL := nL') (ret := ret') ⟨C.1, C.2.1, C.2.2.1, C.2.2.2.1, hts⟩ (hc l) ⟨va_cnB 2 hts (bw_gi m1) rfl rfl rfl (C.2.2.2.2.2.2.2.2.2.2.2.2.2.2.2.2 _ hl0) (hts _ m2) m5 ⟨hdd, by show 8 + (nL' + 11) + 40 * d' ≤ 40 * d; omega⟩, hts _ m3, trivial⟩ ⟨bw_blind, bw_pre C hP hD hS⟩ rfl rfl hl.1 rfl (lv_room hst) hd ⟨hu, hv⟩) hS (fun r H1 locs1 hz hS1 => ?_)
  obtain ⟨M1, hp1, hP1, hD1⟩ := hz
  exact kk r M1 hp1 p l e s m args below meth c H1 locs1 ls C hu hv hP1 hD1 hS1 hl
theorem rw_callV3 {d' k idx ci : Nat} {y : MethodName} {cc' : ByteArray} {nL' : Nat} {ret' : Option FieldType} {post : Option Value → Mem → Prop} {F : (Nat → Int32) → List Value} {x1 x2 x3 : Value} (hd : decode cc pc = .ok (.invokevirtual idx, 3)) (hl0 : Cond.methodLink own idx y ∈ lw_gd) (hm : bw_MV y cc' nL' ret' 3 ci) (hsh : ∀ r, bw_E w k r = .inr (ci, F r)) (hk : k < bw_nn M) (hc : Ct w d' y cc' nL' ret' [.ref (bw_ad w k), x1, x2, x3] M post) (hdd : d' + 1 ≤ d) (hst : (st.map fun v => v.category).sum ≤ 8)
    (kk : ∀ (r : Option Value) (M' : Mem), post r M' → RW w d cu su mc ms cc own nL ret Z (pc + 3) lv (r.toList ++ st) M') : RW w d cu su mc ms cc own nL ret Z pc lv (x3 :: x2 :: x1 :: .ref (bw_ad w k) :: st) M := by
  intro p l e s m args below meth c H locs ls C hu hv hP hD hS hl
  obtain ⟨m1, m2, m3, m4, m5, ⟨q, m6, m7⟩, m8⟩ := hm
  have hts := C.2.2.2.2.1
  have hrv := va_recv (q := q) C.2.2.2.2.2.2.2.1 hP m6 (q0 := k) (a := bw_ad w k) (fs := F (M k)) (by rw [bw_get hk, hsh])
  rw [m7] at hrv
  refine bw_back (w' := w) (va_runV (As := [x1, x2, x3]) (rest := st) (own := own) (C := y.cls) (n := 3) (index := idx) (bytes := cc') (maxL := nL') (ret := ret') ⟨C.1, C.2.1, C.2.2.1, C.2.2.2.1, hts⟩ (hc l) ⟨callB_of 3 hts (bw_gi m1) rfl rfl rfl (hts _ m2) (hts _ hl0) m5 ⟨hdd, by show 8 + (nL' + 11) + 40 * d' ≤ 40 * d; omega⟩, hts _ m3, hts _ m4⟩ ⟨bw_blind, hrv, bw_pre C hP hD hS⟩ rfl rfl hl.1 rfl (lv_room hst) hd ⟨hu, hv⟩) hS (fun r H1 locs1 hz hS1 => ?_)
  obtain ⟨M1, hp1, hP1, hD1⟩ := hz
  exact kk r M1 hp1 p l e s m args below meth c H1 locs1 ls C hu hv hP1 hD1 hS1 hl
theorem rw_callS3 {d' idx : Nat} {y : MethodName} {cc' : ByteArray} {nL' : Nat} {ret' : Option FieldType} {post : Option Value → Mem → Prop} {x1 x2 x3 : Value} (hd : decode cc pc = .ok (.invokestatic idx, 3)) (hl0 : Cond.methodLink own idx y ∈ lw_gd) (hm : bw_MS y cc' nL' ret' 3) (hc : Ct w d' y cc' nL' ret' [x1, x2, x3] M post) (hdd : d' + 1 ≤ d) (hst : (st.map fun v => v.category).sum ≤ 8)
    (kk : ∀ (r : Option Value) (M' : Mem), post r M' → RW w d cu su mc ms cc own nL ret Z (pc + 3) lv (r.toList ++ st) M') : RW w d cu su mc ms cc own nL ret Z pc lv (x3 :: x2 :: x1 :: st) M := by
  intro p l e s m args below meth c H locs ls C hu hv hP hD hS hl
  obtain ⟨m1, m2, m3, m5, m8⟩ := hm
  have hts := C.2.2.2.2.1
  refine bw_back (w' := w) (va_runS (As := [x1, x2, x3]) (rest := st) (own := own) (n := 3) (index := idx) (bytes := cc') (maxL := nL') (ret := ret') ⟨C.1, C.2.1, C.2.2.1, C.2.2.2.1, hts⟩ (hc l) ⟨callB_of 3 hts (bw_gi m1) rfl rfl rfl (hts _ m2) (hts _ hl0) m5 ⟨hdd, by show 8 + (nL' + 11) + 40 * d' ≤ 40 * d; omega⟩, hts _ m3⟩ ⟨bw_blind, bw_pre C hP hD hS⟩ rfl rfl hl.1 rfl (lv_room hst) hd ⟨hu, hv⟩) hS (fun r H1 locs1 hz hS1 => ?_)
  obtain ⟨M1, hp1, hP1, hD1⟩ := hz
  exact kk r M1 hp1 p l e s m args below meth c H1 locs1 ls C hu hv hP1 hD1 hS1 hl
theorem rw_callN3 {d' idx : Nat} {host : String} {y : MethodName} {cc' : ByteArray} {nL' : Nat} {ret' : Option FieldType} {post : Option Value → Mem → Prop} {x1 x2 x3 : Value} (hd : decode cc pc = .ok (.invokestatic idx, 3)) (hl0 : (own, idx, y, host) ∈ bw_nest) (hm : bw_MS y cc' nL' ret' 3) (hc : Ct w d' y cc' nL' ret' [x1, x2, x3] M post) (hdd : d' + 1 ≤ d) (hst : (st.map fun v => v.category).sum ≤ 8)
    (kk : ∀ (r : Option Value) (M' : Mem), post r M' → RW w d cu su mc ms cc own nL ret Z (pc + 3) lv (r.toList ++ st) M') : RW w d cu su mc ms cc own nL ret Z pc lv (x3 :: x2 :: x1 :: st) M := by
  intro p l e s m args below meth c H locs ls C hu hv hP hD hS hl
  obtain ⟨m1, m2, m3, m5, m8⟩ := hm
  have hts := C.2.2.2.2.1
  refine bw_back (w' := w) (va_runSN (As := [x1, x2, x3]) (rest := st) (own := own) (host := host) (n := 3) (index := idx) (bytes := cc') (maxL := nL') (ret := ret') ⟨C.1, C.2.1, C.2.2.1, C.2.2.2.1, hts⟩ (hc l) ⟨va_cnB 3 hts (bw_gi m1) rfl rfl rfl (C.2.2.2.2.2.2.2.2.2.2.2.2.2.2.2.2 _ hl0) (hts _ m2) m5 ⟨hdd, by show 8 + (nL' + 11) + 40 * d' ≤ 40 * d; omega⟩, hts _ m3, trivial⟩ ⟨bw_blind, bw_pre C hP hD hS⟩ rfl rfl hl.1 rfl (lv_room hst) hd ⟨hu, hv⟩) hS (fun r H1 locs1 hz hS1 => ?_)
  obtain ⟨M1, hp1, hP1, hD1⟩ := hz
  exact kk r M1 hp1 p l e s m args below meth c H1 locs1 ls C hu hv hP1 hD1 hS1 hl
theorem rw_callV4 {d' k idx ci : Nat} {y : MethodName} {cc' : ByteArray} {nL' : Nat} {ret' : Option FieldType} {post : Option Value → Mem → Prop} {F : (Nat → Int32) → List Value} {x1 x2 x3 x4 : Value} (hd : decode cc pc = .ok (.invokevirtual idx, 3)) (hl0 : Cond.methodLink own idx y ∈ lw_gd) (hm : bw_MV y cc' nL' ret' 4 ci) (hsh : ∀ r, bw_E w k r = .inr (ci, F r)) (hk : k < bw_nn M) (hc : Ct w d' y cc' nL' ret' [.ref (bw_ad w k), x1, x2, x3, x4] M post) (hdd : d' + 1 ≤ d) (hst : (st.map fun v => v.category).sum ≤ 8)
    (kk : ∀ (r : Option Value) (M' : Mem), post r M' → RW w d cu su mc ms cc own nL ret Z (pc + 3) lv (r.toList ++ st) M') : RW w d cu su mc ms cc own nL ret Z pc lv (x4 :: x3 :: x2 :: x1 :: .ref (bw_ad w k) :: st) M := by
  intro p l e s m args below meth c H locs ls C hu hv hP hD hS hl
  obtain ⟨m1, m2, m3, m4, m5, ⟨q, m6, m7⟩, m8⟩ := hm
  have hts := C.2.2.2.2.1
  have hrv := va_recv (q := q) C.2.2.2.2.2.2.2.1 hP m6 (q0 := k) (a := bw_ad w k) (fs := F (M k)) (by rw [bw_get hk, hsh])
  rw [m7] at hrv
  refine bw_back (w' := w) (va_runV (As := [x1, x2, x3, x4]) (rest := st) (own := own) (C := y.cls) (n := 4) (index := idx) (bytes := cc') (maxL := nL') (ret := ret') ⟨C.1, C.2.1, C.2.2.1, C.2.2.2.1, hts⟩ (hc l) ⟨callB_of 4 hts (bw_gi m1) rfl rfl rfl (hts _ m2) (hts _ hl0) m5 ⟨hdd, by show 8 + (nL' + 11) + 40 * d' ≤ 40 * d; omega⟩, hts _ m3, hts _ m4⟩ ⟨bw_blind, hrv, bw_pre C hP hD hS⟩ rfl rfl hl.1 rfl (lv_room hst) hd ⟨hu, hv⟩) hS (fun r H1 locs1 hz hS1 => ?_)
  obtain ⟨M1, hp1, hP1, hD1⟩ := hz
  exact kk r M1 hp1 p l e s m args below meth c H1 locs1 ls C hu hv hP1 hD1 hS1 hl
theorem rw_callS4 {d' idx : Nat} {y : MethodName} {cc' : ByteArray} {nL' : Nat} {ret' : Option FieldType} {post : Option Value → Mem → Prop} {x1 x2 x3 x4 : Value} (hd : decode cc pc = .ok (.invokestatic idx, 3)) (hl0 : Cond.methodLink own idx y ∈ lw_gd) (hm : bw_MS y cc' nL' ret' 4) (hc : Ct w d' y cc' nL' ret' [x1, x2, x3, x4] M post) (hdd : d' + 1 ≤ d) (hst : (st.map fun v => v.category).sum ≤ 8)
    (kk : ∀ (r : Option Value) (M' : Mem), post r M' → RW w d cu su mc ms cc own nL ret Z (pc + 3) lv (r.toList ++ st) M') : RW w d cu su mc ms cc own nL ret Z pc lv (x4 :: x3 :: x2 :: x1 :: st) M := by
  intro p l e s m args below meth c H locs ls C hu hv hP hD hS hl
  obtain ⟨m1, m2, m3, m5, m8⟩ := hm
  have hts := C.2.2.2.2.1
  refine bw_back (w' := w) (va_runS (As := [x1, x2, x3, x4]) (rest := st) (own := own) (n := 4) (index := idx) (bytes := cc') (maxL := nL') (ret := ret') ⟨C.1, C.2.1, C.2.2.1, C.2.2.2.1, hts⟩ (hc l) ⟨callB_of 4 hts (bw_gi m1) rfl rfl rfl (hts _ m2) (hts _ hl0) m5 ⟨hdd, by show 8 + (nL' + 11) + 40 * d' ≤ 40 * d; omega⟩, hts _ m3⟩ ⟨bw_blind, bw_pre C hP hD hS⟩ rfl rfl hl.1 rfl (lv_room hst) hd ⟨hu, hv⟩) hS (fun r H1 locs1 hz hS1 => ?_)
  obtain ⟨M1, hp1, hP1, hD1⟩ := hz
  exact kk r M1 hp1 p l e s m args below meth c H1 locs1 ls C hu hv hP1 hD1 hS1 hl
theorem rw_callN4 {d' idx : Nat} {host : String} {y : MethodName} {cc' : ByteArray} {nL' : Nat} {ret' : Option FieldType} {post : Option Value → Mem → Prop} {x1 x2 x3 x4 : Value} (hd : decode cc pc = .ok (.invokestatic idx, 3)) (hl0 : (own, idx, y, host) ∈ bw_nest) (hm : bw_MS y cc' nL' ret' 4) (hc : Ct w d' y cc' nL' ret' [x1, x2, x3, x4] M post) (hdd : d' + 1 ≤ d) (hst : (st.map fun v => v.category).sum ≤ 8)
    (kk : ∀ (r : Option Value) (M' : Mem), post r M' → RW w d cu su mc ms cc own nL ret Z (pc + 3) lv (r.toList ++ st) M') : RW w d cu su mc ms cc own nL ret Z pc lv (x4 :: x3 :: x2 :: x1 :: st) M := by
  intro p l e s m args below meth c H locs ls C hu hv hP hD hS hl
  obtain ⟨m1, m2, m3, m5, m8⟩ := hm
  have hts := C.2.2.2.2.1
  refine bw_back (w' := w) (va_runSN (As := [x1, x2, x3, x4]) (rest := st) (own := own) (host := host) (n := 4) (index := idx) (bytes := cc') (maxL := nL') (ret := ret') ⟨C.1, C.2.1, C.2.2.1, C.2.2.2.1, hts⟩ (hc l) ⟨va_cnB 4 hts (bw_gi m1) rfl rfl rfl (C.2.2.2.2.2.2.2.2.2.2.2.2.2.2.2.2 _ hl0) (hts _ m2) m5 ⟨hdd, by show 8 + (nL' + 11) + 40 * d' ≤ 40 * d; omega⟩, hts _ m3, trivial⟩ ⟨bw_blind, bw_pre C hP hD hS⟩ rfl rfl hl.1 rfl (lv_room hst) hd ⟨hu, hv⟩) hS (fun r H1 locs1 hz hS1 => ?_)
  obtain ⟨M1, hp1, hP1, hD1⟩ := hz
  exact kk r M1 hp1 p l e s m args below meth c H1 locs1 ls C hu hv hP1 hD1 hS1 hl
theorem rw_callV5 {d' k idx ci : Nat} {y : MethodName} {cc' : ByteArray} {nL' : Nat} {ret' : Option FieldType} {post : Option Value → Mem → Prop} {F : (Nat → Int32) → List Value} {x1 x2 x3 x4 x5 : Value} (hd : decode cc pc = .ok (.invokevirtual idx, 3)) (hl0 : Cond.methodLink own idx y ∈ lw_gd) (hm : bw_MV y cc' nL' ret' 5 ci) (hsh : ∀ r, bw_E w k r = .inr (ci, F r)) (hk : k < bw_nn M) (hc : Ct w d' y cc' nL' ret' [.ref (bw_ad w k), x1, x2, x3, x4, x5] M post) (hdd : d' + 1 ≤ d) (hst : (st.map fun v => v.category).sum ≤ 8)
    (kk : ∀ (r : Option Value) (M' : Mem), post r M' → RW w d cu su mc ms cc own nL ret Z (pc + 3) lv (r.toList ++ st) M') : RW w d cu su mc ms cc own nL ret Z pc lv (x5 :: x4 :: x3 :: x2 :: x1 :: .ref (bw_ad w k) :: st) M := by
  intro p l e s m args below meth c H locs ls C hu hv hP hD hS hl
  obtain ⟨m1, m2, m3, m4, m5, ⟨q, m6, m7⟩, m8⟩ := hm
  have hts := C.2.2.2.2.1
  have hrv := va_recv (q := q) C.2.2.2.2.2.2.2.1 hP m6 (q0 := k) (a := bw_ad w k) (fs := F (M k)) (by rw [bw_get hk, hsh])
  rw [m7] at hrv
  refine bw_back (w' := w) (va_runV (As := [x1, x2, x3, x4, x5]) (rest := st) (own := own) (C := y.cls) (n := 5) (index := idx) (bytes := cc') (maxL := nL') (ret := ret') ⟨C.1, C.2.1, C.2.2.1, C.2.2.2.1, hts⟩ (hc l) ⟨callB_of 5 hts (bw_gi m1) rfl rfl rfl (hts _ m2) (hts _ hl0) m5 ⟨hdd, by show 8 + (nL' + 11) + 40 * d' ≤ 40 * d; omega⟩, hts _ m3, hts _ m4⟩ ⟨bw_blind, hrv, bw_pre C hP hD hS⟩ rfl rfl hl.1 rfl (lv_room hst) hd ⟨hu, hv⟩) hS (fun r H1 locs1 hz hS1 => ?_)
  obtain ⟨M1, hp1, hP1, hD1⟩ := hz
  exact kk r M1 hp1 p l e s m args below meth c H1 locs1 ls C hu hv hP1 hD1 hS1 hl
theorem rw_callS5 {d' idx : Nat} {y : MethodName} {cc' : ByteArray} {nL' : Nat} {ret' : Option FieldType} {post : Option Value → Mem → Prop} {x1 x2 x3 x4 x5 : Value} (hd : decode cc pc = .ok (.invokestatic idx, 3)) (hl0 : Cond.methodLink own idx y ∈ lw_gd) (hm : bw_MS y cc' nL' ret' 5) (hc : Ct w d' y cc' nL' ret' [x1, x2, x3, x4, x5] M post) (hdd : d' + 1 ≤ d) (hst : (st.map fun v => v.category).sum ≤ 8)
    (kk : ∀ (r : Option Value) (M' : Mem), post r M' → RW w d cu su mc ms cc own nL ret Z (pc + 3) lv (r.toList ++ st) M') : RW w d cu su mc ms cc own nL ret Z pc lv (x5 :: x4 :: x3 :: x2 :: x1 :: st) M := by
  intro p l e s m args below meth c H locs ls C hu hv hP hD hS hl
  obtain ⟨m1, m2, m3, m5, m8⟩ := hm
  have hts := C.2.2.2.2.1
  refine bw_back (w' := w) (va_runS (As := [x1, x2, x3, x4, x5]) (rest := st) (own := own) (n := 5) (index := idx) (bytes := cc') (maxL := nL') (ret := ret') ⟨C.1, C.2.1, C.2.2.1, C.2.2.2.1, hts⟩ (hc l) ⟨callB_of 5 hts (bw_gi m1) rfl rfl rfl (hts _ m2) (hts _ hl0) m5 ⟨hdd, by show 8 + (nL' + 11) + 40 * d' ≤ 40 * d; omega⟩, hts _ m3⟩ ⟨bw_blind, bw_pre C hP hD hS⟩ rfl rfl hl.1 rfl (lv_room hst) hd ⟨hu, hv⟩) hS (fun r H1 locs1 hz hS1 => ?_)
  obtain ⟨M1, hp1, hP1, hD1⟩ := hz
  exact kk r M1 hp1 p l e s m args below meth c H1 locs1 ls C hu hv hP1 hD1 hS1 hl
theorem rw_callN5 {d' idx : Nat} {host : String} {y : MethodName} {cc' : ByteArray} {nL' : Nat} {ret' : Option FieldType} {post : Option Value → Mem → Prop} {x1 x2 x3 x4 x5 : Value} (hd : decode cc pc = .ok (.invokestatic idx, 3)) (hl0 : (own, idx, y, host) ∈ bw_nest) (hm : bw_MS y cc' nL' ret' 5) (hc : Ct w d' y cc' nL' ret' [x1, x2, x3, x4, x5] M post) (hdd : d' + 1 ≤ d) (hst : (st.map fun v => v.category).sum ≤ 8)
    (kk : ∀ (r : Option Value) (M' : Mem), post r M' → RW w d cu su mc ms cc own nL ret Z (pc + 3) lv (r.toList ++ st) M') : RW w d cu su mc ms cc own nL ret Z pc lv (x5 :: x4 :: x3 :: x2 :: x1 :: st) M := by
  intro p l e s m args below meth c H locs ls C hu hv hP hD hS hl
  obtain ⟨m1, m2, m3, m5, m8⟩ := hm
  have hts := C.2.2.2.2.1
  refine bw_back (w' := w) (va_runSN (As := [x1, x2, x3, x4, x5]) (rest := st) (own := own) (host := host) (n := 5) (index := idx) (bytes := cc') (maxL := nL') (ret := ret') ⟨C.1, C.2.1, C.2.2.1, C.2.2.2.1, hts⟩ (hc l) ⟨va_cnB 5 hts (bw_gi m1) rfl rfl rfl (C.2.2.2.2.2.2.2.2.2.2.2.2.2.2.2.2 _ hl0) (hts _ m2) m5 ⟨hdd, by show 8 + (nL' + 11) + 40 * d' ≤ 40 * d; omega⟩, hts _ m3, trivial⟩ ⟨bw_blind, bw_pre C hP hD hS⟩ rfl rfl hl.1 rfl (lv_room hst) hd ⟨hu, hv⟩) hS (fun r H1 locs1 hz hS1 => ?_)
  obtain ⟨M1, hp1, hP1, hD1⟩ := hz
  exact kk r M1 hp1 p l e s m args below meth c H1 locs1 ls C hu hv hP1 hD1 hS1 hl
theorem rw_case {x : Int32} (k : Int32) (kt : x = k → RW w d cu su mc ms cc own nL ret Z pc lv (.int x :: st) M) (kf : ¬ x = k → RW w d cu su mc ms cc own nL ret Z pc lv (.int x :: st) M) : RW w d cu su mc ms cc own nL ret Z pc lv (.int x :: st) M := by
  by_cases h : x = k
  · exact kt h
  · exact kf h
theorem rw_ti {x y : Int32} (h : y = x) (k : RW w d cu su mc ms cc own nL ret Z pc lv (.int y :: st) M) : RW w d cu su mc ms cc own nL ret Z pc lv (.int x :: st) M := by subst h; exact k
theorem rw_tabK {dflt lo hi : Int} {offs : Array Int} {len : Nat} {x k : Int32} {off : Int} {tgt : Nat} (hd : decode cc pc = .ok (.tableswitch dflt lo hi offs, len)) (h : x = k) (h1 : ¬ k.toInt < lo) (h2 : ¬ hi < k.toInt) (ho : offs[(k.toInt - lo).toNat]? = some off) (ht : (pc : Int) + off = (tgt : Int)) (kk : RW w d cu su mc ms cc own nL ret Z tgt lv st M) : RW w d cu su mc ms cc own nL ret Z pc lv (.int x :: st) M := by
  subst h
  intro p l e s m args below meth c H locs ls C hu hv hP hD hS hl
  exact lv_tableIn C.1 C.2.1 hd h1 h2 ho ht (kk p l e s m args below meth c H locs ls C hu hv hP hD hS hl)
theorem rw_tabD {dflt lo hi : Int} {offs : Array Int} {len : Nat} {x : Int32} {tgt : Nat} (hd : decode cc pc = .ok (.tableswitch dflt lo hi offs, len)) (h : x.toInt < lo ∨ hi < x.toInt) (ht : (pc : Int) + dflt = (tgt : Int)) (kk : RW w d cu su mc ms cc own nL ret Z tgt lv st M) : RW w d cu su mc ms cc own nL ret Z pc lv (.int x :: st) M := by
  intro p l e s m args below meth c H locs ls C hu hv hP hD hS hl
  exact lv_tableOut C.1 C.2.1 hd h ht (kk p l e s m args below meth c H locs ls C hu hv hP hD hS hl)
end RWS
/-! posts of contracts that name answer and memory; guards of the functions -/
def bw_pi (v : Int32) (M1 : Mem) : Option Value → Mem → Prop := fun r M => r = some (.int v) ∧ M = M1
def bw_pv (M1 : Mem) : Option Value → Mem → Prop := fun r M => r = none ∧ M = M1
def bw_pr (v : Value) (M1 : Mem) : Option Value → Mem → Prop := fun r M => r = some v ∧ M = M1
theorem bw_kki {Rr : List Value → Mem → Prop} {v : Int32} {M1 : Mem} {st : List Value} (k : Rr (.int v :: st) M1) : ∀ (r : Option Value) (M : Mem), bw_pi v M1 r M → Rr (r.toList ++ st) M := by
  intro r M h
  obtain ⟨rfl, rfl⟩ := h
  exact k
theorem bw_kkv {Rr : List Value → Mem → Prop} {M1 : Mem} {st : List Value} (k : Rr st M1) : ∀ (r : Option Value) (M : Mem), bw_pv M1 r M → Rr (r.toList ++ st) M := by
  intro r M h
  obtain ⟨rfl, rfl⟩ := h
  exact k
theorem bw_kkr {Rr : List Value → Mem → Prop} {v : Value} {M1 : Mem} {st : List Value} (k : Rr (v :: st) M1) : ∀ (r : Option Value) (M : Mem), bw_pr v M1 r M → Rr (r.toList ++ st) M := by
  intro r M h
  obtain ⟨rfl, rfl⟩ := h
  exact k
def bw_ib (i : Int32) (n : Nat) : Bool := decide (0 ≤ i) && decide (i.toNatClampNeg < n)
theorem bw_in {i : Int32} {n : Nat} (h : bw_ib i n = true) : vp_in i n := by
  simp only [bw_ib, Bool.and_eq_true, decide_eq_true_eq] at h
  intro q
  rcases q with q | q
  · have h1 := h.1
    rw [Int32.le_iff_toInt_le] at h1
    rw [Int32.lt_iff_toInt_lt] at q
    omega
  · omega
theorem bw_lt {i : Int32} {n : Nat} (h : bw_ib i n = true) : i.toNatClampNeg < n := by
  simp only [bw_ib, Bool.and_eq_true, decide_eq_true_eq] at h
  exact h.2
theorem bw_gd {c : Prop} [Decidable c] {α : Type} {a : Option α} {v : α} (h : (if c then a else none) = some v) : c ∧ a = some v := by
  by_cases hc : c
  · rw [if_pos hc] at h; exact ⟨hc, h⟩
  · rw [if_neg hc] at h; cases h
theorem bw_bd {α β : Type} {o : Option α} {f : α → Option β} {v : β} (h : o.bind f = some v) : ∃ q, o = some q ∧ f q = some v := by
  cases o with
  | none => cases h
  | some q => exact ⟨q, rfl, h⟩
theorem bw_it {c : Prop} [Decidable c] {α : Type} {a b v : α} (hc : c) (h : (if c then a else b) = v) : a = v := by rw [if_pos hc] at h; exact h
theorem bw_if {c : Prop} [Decidable c] {α : Type} {a b v : α} (hc : ¬ c) (h : (if c then a else b) = v) : b = v := by rw [if_neg hc] at h; exact h
def bw_ml {α β : Type} (M : α) (f : α → β) : β := f M
theorem bw_mlE {α β : Type} {M : α} {f : α → β} {v : β} (h : bw_ml M f = v) : ∃ M1, M1 = M ∧ f M1 = v := ⟨M, rfl, h⟩
