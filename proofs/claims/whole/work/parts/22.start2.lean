def RZ (w : WE) (b L : Nat) (xs : Nat → Int32) (cu su pc : Nat) (lv : List (Nat × Value)) (st : List Value) (l : va_W) : Prop :=
  ∀ (p : Program) (l0 : Launch) (e : Env) (s : State) (m : MethodId) (below : List Frame) (meth : Method) (c : Code) (H : Heap) (locs : List Loc) (ls : Array Slot),
    lw_At p s m meth c b L xs → va_K (bw_d w) vwCl (bw_T w) s → bw_bz w = s.heap.size → bw_Old w s s.heap → L ≤ 3072 → cu ≤ 600000 → su ≤ 7302250 → va_P (bw_d w) vwCl l H → va_D (bw_A w) l → va_S (bw_A w) s.heap H locs → bw_lv ls 4 lv →
    W p l0 e room_1 s m #[Value.ref b] below meth c H locs cu su (lw_Z below #[Value.ref b] s) (F0 m pc ls st)
section RZS
variable {w : WE} {b L : Nat} {xs : Nat → Int32} {cu su pc : Nat} {lv : List (Nat × Value)} {st : List Value} {l : va_W}
theorem rz_dup {va : Value} (hd : decode code pc = .ok (.dup, 1)) (hc : va.category = 1) (k : RZ w b L xs cu su (pc + 1) lv (va :: va :: st) l) : RZ w b L xs cu su pc lv (va :: st) l := by
  intro p l0 e s m below meth c H locs ls C hK hz hO hL hu hv hP hD hS hl
  exact lv_dup C.1 C.2.1 hd hc (k p l0 e s m below meth c H locs ls C hK hz hO hL hu hv hP hD hS hl)
theorem rz_iconst {n : Int} {v : Int32} (hd : decode code pc = .ok (.iconst n, 1)) (hv0 : Int32.ofInt n = v) (k : RZ w b L xs cu su (pc + 1) lv (.int v :: st) l) : RZ w b L xs cu su pc lv st l := by
  intro p l0 e s m below meth c H locs ls C hK hz hO hL hu hv hP hD hS hl
  exact lv_iconst C.1 C.2.1 hd hv0 (k p l0 e s m below meth c H locs ls C hK hz hO hL hu hv hP hD hS hl)
theorem rz_istore {j : Fin 4} {i : Nat} {x : Int32} (hd : decode code pc = .ok (.istore_n j, 1)) (hi : (j : Nat) = i) (hn : i < 4) (k : RZ w b L xs cu su (pc + 1) ((i, .int x) :: lv) st l) : RZ w b L xs cu su pc lv (.int x :: st) l := by
  intro p l0 e s m below meth c H locs ls C hK hz hO hL hu hv hP hD hS hl
  subst hi
  obtain ⟨ls', e', h'⟩ := bw_store (v := .int x) hl hn rfl
  intro T hT X
  obtain ⟨t, a, b⟩ := k p l0 e s m below meth c H locs ls' C hK hz hO hL hu hv hP hD hS h' T hT X
  refine ⟨t, ?_, b⟩
  have hexec := C.1
  have hb := C.2.1
  jvm_step X.here [X.here.top, ↓top_set X.here.top, hexec, hb, hd, e']
  exact a
theorem rz_astore {j : Fin 4} {i : Nat} {x : Nat} (hd : decode code pc = .ok (.astore_n j, 1)) (hi : (j : Nat) = i) (hn : i < 4) (k : RZ w b L xs cu su (pc + 1) ((i, .ref x) :: lv) st l) : RZ w b L xs cu su pc lv (.ref x :: st) l := by
  intro p l0 e s m below meth c H locs ls C hK hz hO hL hu hv hP hD hS hl
  subst hi
  obtain ⟨ls', e', h'⟩ := bw_store (v := .ref x) hl hn rfl
  intro T hT X
  obtain ⟨t, a, b⟩ := k p l0 e s m below meth c H locs ls' C hK hz hO hL hu hv hP hD hS h' T hT X
  refine ⟨t, ?_, b⟩
  have hexec := C.1
  have hb := C.2.1
  jvm_step X.here [X.here.top, ↓top_set X.here.top, hexec, hb, hd, e', Value.isRef]
  exact a
theorem rz_new {idx ci : Nat} {fs : List Value} (hd : decode code pc = .ok (.new idx, 3)) (hw : bw_NW R_law idx ci fs) (h1 : cu + 1 ≤ 600000) (h2 : su + fs.length ≤ 7302250) (k : ∀ q : Nat, RZ w b L xs (cu + 1) (su + fs.length) (pc + 3) lv (.ref q :: st) (l ++ [(q, .inr (ci, fs))])) : RZ w b L xs cu su pc lv st l := by
  intro p l0 e s m below meth c H locs ls C hK hz hO hL hu hv hP hD hS hl
  have hts := bw_gt C.2.2.2.2.2.1
  obtain ⟨Cn, T, N, t, e1, e2, e3, e4, e5, e6, e7, e8⟩ := hw
  subst e2
  refine va_new C.1 C.2.1 hts e3 t e4 C.2.2.2.2.1 (hts _ e5) (hts _ e6) (hts _ e7) hK hP hD hS (fun q hq => by show bw_bz w ≤ q; omega) e1 e8 h1 h2 hd (fun q H1 hP1 hD1 hS1 => ?_)
  exact k q p l0 e s m below meth c H1 locs ls C hK hz hO hL h1 h2 hP1 hD1 hS1 hl
theorem rz_callI {d' mc' ms' a idx : Nat} {y : MethodName} {cc' : ByteArray} {nL' : Nat} {X : va_W → Prop} (hd : decode code pc = .ok (.invokespecial idx, 3)) (hl0 : Cond.methodLink R_law idx y ∈ lw_gd) (hm : bw_MI y cc' nL' 0) (hc : CtX w d' mc' ms' y cc' nL' none [.ref a] l (bw_ZX w none X)) (hdd : d' ≤ 1000) (h1 : cu + mc' ≤ 600000) (h2 : su + ms' ≤ 7302250) (hst : (st.map fun v => v.category).sum ≤ 8)
    (kk : ∀ ws1, X ws1 → RZ w b L xs (cu + mc') (su + ms') (pc + 3) lv st ws1) : RZ w b L xs cu su pc lv (.ref a :: st) l := by
  intro p l0 e s m below meth c H locs ls C hK hz hO hL hu hv hP hD hS hl
  obtain ⟨m1, m2, m3, m5, m6, m8⟩ := hm
  have hts := bw_gt C.2.2.2.2.2.1
  refine bw_backR (va_runI (As := []) (rest := st) (own := R_law) (n := 0) (index := idx) (bytes := cc') (maxL := nL') ⟨C.1, C.2.1, C.2.2.2.1, C.2.2.2.2.1, hts⟩ (hc l0) ⟨callB_of 0 hts (bw_gi m1) rfl rfl rfl (hts _ m2) (hts _ hl0) m5 ⟨by show d' + 1 ≤ 2048; omega, by show 8 + (nL' + 11) + 40 * d' ≤ 84000; omega⟩, m6, hts _ m3⟩ ⟨bw_blindX, fun U hU hW => ⟨rfl, by rw [hU]; exact hP, va_K.moved hW.alike hK, hD, by rw [hU, hz]; exact hS.1, by rw [hU]; exact hO.go hW hS.2.1, bw_AOs.moved hW.alike hO.2.2.2.2.2.2.1⟩⟩ rfl rfl hl.1 rfl (lv_room hst) hd ⟨h1, h2⟩) hS (fun r H1 locs1 hz1 hS1 => ?_)
  obtain ⟨rfl, ws1, hx1, hP1, hD1⟩ := hz1
  exact kk ws1 hx1 p l0 e s m below meth c H1 locs1 ls C hK hz hO hL h1 h2 hP1 hD1 hS1 hl
theorem rz_l {l' : va_W} (h : l = l') (k : RZ w b L xs cu su pc lv st l') : RZ w b L xs cu su pc lv st l := by subst h; exact k
theorem rz_fin {f : Nat → Nat} {M : Mem} (hx : ∀ H, va_P (bw_d w) vwCl l H → va_P (bw_d w) vwCl (bw_W (bw_wa w f) M) H) (hy : va_D (bw_A w) l → va_D (bw_A w) (bw_W (bw_wa w f) M)) (k : RQ (bw_wa w f) b L xs cu su pc lv st M) : RZ w b L xs cu su pc lv st l := by
  intro p l0 e s m below meth c H locs ls C hK hz hO hL hu hv hP hD hS hl
  exact k p l0 e s m below meth c H locs ls C hK hz hO hL hu hv (hx H hP) (hy hD) hS hl
end RZS
def bw_M0 : Mem := fun k => match k with
  | 25 => (fun j => if j = 5 then 100 else if j = 6 then 2 else if j = 7 then 336 else if j = 8 then 1 else 0)
  | 45 => (fun j => if j = 5 then 100 else if j = 6 then 2 else if j = 7 then 336 else if j = 8 then 1 else 0)
  | 65 => (fun j => if j = 0 then (-1) else 0)
  | 67 => (fun j => if j = 0 then (-1) else 0)
  | 69 => (fun j => if j = 0 then (-1) else 0)
  | 71 => (fun j => if j = 0 then (-1) else 0)
  | 75 => (fun j => if j = 0 then (-1) else 0)
  | 79 => (fun j => if j = 0 then (-1) else 0)
  | 83 => (fun j => if j = 0 then (-1) else 0)
  | 87 => (fun j => if j = 0 then (-1) else 0)
  | 91 => (fun j => if j = 0 then (-1) else 0)
  | 94 => (upd (upd (upd (upd (fun _ => 0) 0 1) 1 100) 2 2) 3 336)
  | 111 => (upd (upd (upd (upd (upd (upd (upd (upd (upd (upd (upd (upd (fun _ => 0) 0 99) 1 111) 2 115) 3 116) 4 119) 5 97) 6 108) 7 107) 8 103) 9 114) 10 111) 11 119)
  | 112 => (upd (upd (upd (upd (fun _ => 0) 0 0) 1 4) 2 8) 3 12)
  | 120 => (upd (upd (upd (upd (fun _ => 0) 0 (-1)) 1 (-1)) 2 (-1)) 3 (-1))
  | _ => fun _ => 0
def bw_lx (w : WE) (x0 x1 x2 x3 x4 x5 x6 x7 x8 x9 x10 x11 x12 x13 x14 x15 x16 x17 x18 x19 x20 x21 x22 x23 x24 x25 x26 x27 x28 x29 x30 x31 x32 x33 x34 x35 x36 x37 x38 x39 x40 x41 x42 x43 x44 x45 x46 x47 x48 x49 x50 x51 x52 x53 x54 x55 x56 x57 x58 x59 x60 x61 x62 x63 x64 x65 x66 x67 x68 x69 x70 x71 x72 x73 x74 x75 x76 x77 x78 x79 x80 x81 x82 x83 x84 x85 x86 x87 x88 x89 x90 x91 x92 : Nat) : va_W := [(x0, .inr (9, [.ref x1, .ref x21, .int 0, .ref x41, .ref x51, .ref x54, .ref x55, .ref x58, .ref x59, .ref x60, .int 0, .ref x61, .ref x62, .ref x63, .ref x64])), (x1, .inr (6, [.int 0, .ref x2, .ref x3, .ref x4, .ref x5, .int 100, .int 2, .int 336, .int 1, .int 0, .ref x6, .int 0, .ref x7, .int 0, .ref x8])), (x2, .inl (bw_ca w 0, 24, .inl (fun _ => 0))), (x3, .inl (bw_ca w 0, 24, .inl (fun _ => 0))), (x4, .inl (bw_ca w 0, 24, .inl (fun _ => 0))), (x5, .inl (bw_ca w 1, 24, .inl (fun _ => 0))), (x6, .inl (bw_ca w 3, 12, .inr (.inr (.inr (.inr (va_up (va_up (va_up (va_up (va_up (va_up (va_up (va_up (va_up (va_up (va_up (va_up (fun _ => none) 0 (some x9)) 1 (some x10)) 2 (some x11)) 3 (some x12)) 4 (some x13)) 5 (some x14)) 6 (some x15)) 7 (some x16)) 8 (some x17)) 9 (some x18)) 10 (some x19)) 11 (some x20))))))), (x7, .inl (bw_ca w 0, 6, .inl (fun _ => 0))), (x8, .inl (bw_ca w 4, 14, .inr (.inr (.inr (.inr (fun _ => none)))))), (x9, .inr (0, [.int 0, .int 0, .int 0, .int 0])), (x10, .inr (0, [.int 0, .int 0, .int 0, .int 0])), (x11, .inr (0, [.int 0, .int 0, .int 0, .int 0])), (x12, .inr (0, [.int 0, .int 0, .int 0, .int 0])), (x13, .inr (0, [.int 0, .int 0, .int 0, .int 0])), (x14, .inr (0, [.int 0, .int 0, .int 0, .int 0])), (x15, .inr (0, [.int 0, .int 0, .int 0, .int 0])), (x16, .inr (0, [.int 0, .int 0, .int 0, .int 0])), (x17, .inr (0, [.int 0, .int 0, .int 0, .int 0])), (x18, .inr (0, [.int 0, .int 0, .int 0, .int 0])), (x19, .inr (0, [.int 0, .int 0, .int 0, .int 0])), (x20, .inr (0, [.int 0, .int 0, .int 0, .int 0])), (x21, .inr (6, [.int 0, .ref x22, .ref x23, .ref x24, .ref x25, .int 100, .int 2, .int 336, .int 1, .int 0, .ref x26, .int 0, .ref x27, .int 0, .ref x28])), (x22, .inl (bw_ca w 0, 24, .inl (fun _ => 0))), (x23, .inl (bw_ca w 0, 24, .inl (fun _ => 0))), (x24, .inl (bw_ca w 0, 24, .inl (fun _ => 0))), (x25, .inl (bw_ca w 1, 24, .inl (fun _ => 0))), (x26, .inl (bw_ca w 3, 12, .inr (.inr (.inr (.inr (va_up (va_up (va_up (va_up (va_up (va_up (va_up (va_up (va_up (va_up (va_up (va_up (fun _ => none) 0 (some x29)) 1 (some x30)) 2 (some x31)) 3 (some x32)) 4 (some x33)) 5 (some x34)) 6 (some x35)) 7 (some x36)) 8 (some x37)) 9 (some x38)) 10 (some x39)) 11 (some x40))))))), (x27, .inl (bw_ca w 0, 6, .inl (fun _ => 0))), (x28, .inl (bw_ca w 4, 14, .inr (.inr (.inr (.inr (fun _ => none)))))), (x29, .inr (0, [.int 0, .int 0, .int 0, .int 0])), (x30, .inr (0, [.int 0, .int 0, .int 0, .int 0])), (x31, .inr (0, [.int 0, .int 0, .int 0, .int 0])), (x32, .inr (0, [.int 0, .int 0, .int 0, .int 0])), (x33, .inr (0, [.int 0, .int 0, .int 0, .int 0])), (x34, .inr (0, [.int 0, .int 0, .int 0, .int 0])), (x35, .inr (0, [.int 0, .int 0, .int 0, .int 0])), (x36, .inr (0, [.int 0, .int 0, .int 0, .int 0])), (x37, .inr (0, [.int 0, .int 0, .int 0, .int 0])), (x38, .inr (0, [.int 0, .int 0, .int 0, .int 0])), (x39, .inr (0, [.int 0, .int 0, .int 0, .int 0])), (x40, .inr (0, [.int 0, .int 0, .int 0, .int 0])), (x41, .inr (2, [.int 0, .ref x42, .ref x43, .ref x44, .int 0, .int 0, .int 0, .null, .ref x45, .int 0, .ref x46, .ref x47, .ref x48, .ref x49, .int 0, .ref x50])), (x42, .inl (bw_ca w 0, 25, .inl (fun _ => 0))), (x43, .inl (bw_ca w 0, 25, .inl (fun _ => 0))), (x44, .inl (bw_ca w 1, 25, .inl (fun _ => 0))), (x45, .inl (bw_ca w 0, 6, .inl (fun _ => 0))), (x46, .inl (bw_ca w 0, 2500, .inl (fun _ => 0))), (x47, .inl (bw_ca w 0, 25, .inl (fun _ => 0))), (x48, .inl (bw_ca w 0, 25, .inl (fun _ => 0))), (x49, .inl (bw_ca w 0, 25, .inl (fun _ => 0))), (x50, .inl (bw_ca w 0, 25, .inl (fun _ => 0))), (x51, .inr (8, [.int 0, .ref x52, .ref x53, .null])), (x52, .inl (bw_ca w 0, 24, .inl (fun _ => 0))), (x53, .inl (bw_ca w 0, 8, .inl (fun _ => 0))), (x54, .inr (3, [.ref x55, .ref x57, .int 0, .int 0, .int 0])), (x55, .inr (7, [.ref x56, .int 0, .int 0, .int 0, .int 0])), (x56, .inl (bw_ca w 0, 96, .inl (fun _ => 0))), (x57, .inl (bw_ca w 0, 96, .inl (fun _ => 0))), (x58, .inl (bw_ca w 5, 4, .inr (.inr (.inr (.inr (va_up (va_up (va_up (va_up (fun _ => none) 0 (some x65)) 1 (some x67)) 2 (some x69)) 3 (some x71))))))), (x59, .inl (bw_ca w 6, 5, .inr (.inr (.inr (.inr (va_up (va_up (va_up (va_up (va_up (fun _ => none) 0 (some x73)) 1 (some x77)) 2 (some x81)) 3 (some x85)) 4 (some x89))))))), (x60, .inl (bw_ca w 0, 60, .inl (fun _ => 0))), (x61, .inl (bw_ca w 0, 24, .inl (fun _ => 0))), (x62, .inl (bw_ca w 0, 3, .inl (fun _ => 0))), (x63, .inl (bw_ca w 0, 3, .inl (fun _ => 0))), (x64, .inl (bw_ca w 0, 24, .inl (fun _ => 0))), (x65, .inr (4, [.int (-1), .int 0, .ref x66])), (x66, .inl (bw_ca w 0, 24, .inl (fun _ => 0))), (x67, .inr (4, [.int (-1), .int 0, .ref x68])), (x68, .inl (bw_ca w 0, 24, .inl (fun _ => 0))), (x69, .inr (4, [.int (-1), .int 0, .ref x70])), (x70, .inl (bw_ca w 0, 24, .inl (fun _ => 0))), (x71, .inr (4, [.int (-1), .int 0, .ref x72])), (x72, .inl (bw_ca w 0, 24, .inl (fun _ => 0))), (x73, .inr (5, [.int 0, .ref x74, .ref x75, .int 0])), (x74, .inr (0, [.int 0, .int 0, .int 0, .int 0])), (x75, .inr (4, [.int (-1), .int 0, .ref x76])), (x76, .inl (bw_ca w 0, 24, .inl (fun _ => 0))), (x77, .inr (5, [.int 0, .ref x78, .ref x79, .int 0])), (x78, .inr (0, [.int 0, .int 0, .int 0, .int 0])), (x79, .inr (4, [.int (-1), .int 0, .ref x80])), (x80, .inl (bw_ca w 0, 24, .inl (fun _ => 0))), (x81, .inr (5, [.int 0, .ref x82, .ref x83, .int 0])), (x82, .inr (0, [.int 0, .int 0, .int 0, .int 0])), (x83, .inr (4, [.int (-1), .int 0, .ref x84])), (x84, .inl (bw_ca w 0, 24, .inl (fun _ => 0))), (x85, .inr (5, [.int 0, .ref x86, .ref x87, .int 0])), (x86, .inr (0, [.int 0, .int 0, .int 0, .int 0])), (x87, .inr (4, [.int (-1), .int 0, .ref x88])), (x88, .inl (bw_ca w 0, 24, .inl (fun _ => 0))), (x89, .inr (5, [.int 0, .ref x90, .ref x91, .int 0])), (x90, .inr (0, [.int 0, .int 0, .int 0, .int 0])), (x91, .inr (4, [.int (-1), .int 0, .ref x92])), (x92, .inl (bw_ca w 0, 24, .inl (fun _ => 0)))]
def bw_lm (w : WE) (m0 m1 m2 m3 m4 m5 m6 m7 m8 m9 m10 m11 m12 m13 m14 m15 m16 m17 m18 m19 m20 m21 m22 m23 m24 m25 m26 m27 m28 m29 m30 m31 m32 m33 m34 m35 : Nat) : va_W := [(m0, .inr (10, [.ref m1, .ref m2, .ref m3, .int 0, .ref m4, .ref m5, .ref m6, .int 0, .int 0, .ref m7, .int 0, .ref m8, .ref m9, .int 0, .ref m10, .ref m11, .int 0, .int 0, .ref m12, .ref m13, .ref m14, .ref m15, .int 0, .ref m16, .int 0, .ref m17, .int 0, .int 0, .int 0, .int 0, .int 0, .int 0, .int 0, .ref m18, .ref m19, .ref m20, .int 0, .int 0, .ref m21, .int 0, .ref m22, .ref m23, .ref m24, .ref m25, .ref m26, .ref m27, .ref m28, .ref m29, .ref m30, .ref m31, .ref m32, .ref m33, .ref m34, .ref m35, .int 0])), (m1, .inl (bw_ca w 0, 1530, .inl (upd (upd (upd (upd (fun _ => 0) 0 1) 1 100) 2 2) 3 336))), (m2, .inl (bw_ca w 0, 1530, .inl (fun _ => 0))), (m3, .inl (bw_ca w 0, 1530, .inl (fun _ => 0))), (m4, .inl (bw_ca w 0, 25, .inl (fun _ => 0))), (m5, .inl (bw_ca w 0, 25, .inl (fun _ => 0))), (m6, .inl (bw_ca w 1, 25, .inl (fun _ => 0))), (m7, .inl (bw_ca w 0, 6, .inl (fun _ => 0))), (m8, .inl (bw_ca w 0, 2500, .inl (fun _ => 0))), (m9, .inl (bw_ca w 0, 2500, .inl (fun _ => 0))), (m10, .inl (bw_ca w 0, 26, .inl (fun _ => 0))), (m11, .inl (bw_ca w 0, 26, .inl (fun _ => 0))), (m12, .inl (bw_ca w 0, 26, .inl (fun _ => 0))), (m13, .inl (bw_ca w 0, 25, .inl (fun _ => 0))), (m14, .inl (bw_ca w 0, 26, .inl (fun _ => 0))), (m15, .inl (bw_ca w 0, 24, .inl (fun _ => 0))), (m16, .inl (bw_ca w 0, 3, .inl (fun _ => 0))), (m17, .inl (bw_ca w 0, 96, .inl (fun _ => 0))), (m18, .inl (bw_ca w 2, 12, .inl (upd (upd (upd (upd (upd (upd (upd (upd (upd (upd (upd (upd (fun _ => 0) 0 99) 1 111) 2 115) 3 116) 4 119) 5 97) 6 108) 7 107) 8 103) 9 114) 10 111) 11 119))), (m19, .inl (bw_ca w 0, 4, .inl (upd (upd (upd (upd (fun _ => 0) 0 0) 1 4) 2 8) 3 12))), (m20, .inl (bw_ca w 0, 96, .inl (fun _ => 0))), (m21, .inl (bw_ca w 0, 96, .inl (fun _ => 0))), (m22, .inl (bw_ca w 1, 10, .inl (fun _ => 0))), (m23, .inl (bw_ca w 0, 96, .inl (fun _ => 0))), (m24, .inl (bw_ca w 0, 4, .inl (fun _ => 0))), (m25, .inl (bw_ca w 0, 25, .inl (fun _ => 0))), (m26, .inl (bw_ca w 0, 25, .inl (fun _ => 0))), (m27, .inl (bw_ca w 0, 4, .inl (upd (upd (upd (upd (fun _ => 0) 0 (-1)) 1 (-1)) 2 (-1)) 3 (-1)))), (m28, .inl (bw_ca w 0, 4, .inl (fun _ => 0))), (m29, .inl (bw_ca w 0, 96, .inl (fun _ => 0))), (m30, .inl (bw_ca w 0, 5, .inl (fun _ => 0))), (m31, .inl (bw_ca w 0, 5, .inl (fun _ => 0))), (m32, .inl (bw_ca w 0, 5, .inl (fun _ => 0))), (m33, .inl (bw_ca w 0, 120, .inl (fun _ => 0))), (m34, .inl (bw_ca w 0, 24, .inl (fun _ => 0))), (m35, .inl (bw_ca w 0, 60, .inl (fun _ => 0)))]
def bw_ax (x0 x1 x2 x3 x4 x5 x6 x7 x8 x9 x10 x11 x12 x13 x14 x15 x16 x17 x18 x19 x20 x21 x22 x23 x24 x25 x26 x27 x28 x29 x30 x31 x32 x33 x34 x35 x36 x37 x38 x39 x40 x41 x42 x43 x44 x45 x46 x47 x48 x49 x50 x51 x52 x53 x54 x55 x56 x57 x58 x59 x60 x61 x62 x63 x64 x65 x66 x67 x68 x69 x70 x71 x72 x73 x74 x75 x76 x77 x78 x79 x80 x81 x82 x83 x84 x85 x86 x87 x88 x89 x90 x91 x92 m0 m1 m2 m3 m4 m5 m6 m7 m8 m9 m10 m11 m12 m13 m14 m15 m16 m17 m18 m19 m20 m21 m22 m23 m24 m25 m26 m27 m28 m29 m30 m31 m32 m33 m34 m35 : Nat) : Nat → Nat := fun k => ([x0, x41, x42, x43, x44, x45, x46, x47, x48, x49, x50, x51, x52, x53, x54, x57, x55, x56, x58, x59, x60, x61, x62, x63, x64, x1, x2, x3, x4, x5, x6, x7, x8, x9, x10, x11, x12, x13, x14, x15, x16, x17, x18, x19, x20, x21, x22, x23, x24, x25, x26, x27, x28, x29, x30, x31, x32, x33, x34, x35, x36, x37, x38, x39, x40, x65, x66, x67, x68, x69, x70, x71, x72, x73, x74, x75, x76, x77, x78, x79, x80, x81, x82, x83, x84, x85, x86, x87, x88, x89, x90, x91, x92, m0, m1, m2, m3, m4, m5, m6, m7, m8, m9, m10, m11, m12, m13, m14, m15, m16, m17, m18, m19, m20, m21, m22, m23, m24, m25, m26, m27, m28, m29, m30, m31, m32, m33, m34, m35] : List Nat).getD k 0
def bw_ps : List Nat := [0, 41, 42, 43, 44, 45, 46, 47, 48, 49, 50, 51, 52, 53, 54, 57, 55, 56, 58, 59, 60, 61, 62, 63, 64, 1, 2, 3, 4, 5, 6, 7, 8, 9, 10, 11, 12, 13, 14, 15, 16, 17, 18, 19, 20, 21, 22, 23, 24, 25, 26, 27, 28, 29, 30, 31, 32, 33, 34, 35, 36, 37, 38, 39, 40, 65, 66, 67, 68, 69, 70, 71, 72, 73, 74, 75, 76, 77, 78, 79, 80, 81, 82, 83, 84, 85, 86, 87, 88, 89, 90, 91, 92, 93, 94, 95, 96, 97, 98, 99, 100, 101, 102, 103, 104, 105, 106, 107, 108, 109, 110, 111, 112, 113, 114, 115, 116, 117, 118, 119, 120, 121, 122, 123, 124, 125, 126, 127, 128]
set_option maxRecDepth 20000 in
set_option maxHeartbeats 2000000 in
theorem sg_0 (w : WE) (x0 x1 x2 x3 x4 x5 x6 x7 x8 x9 x10 x11 x12 x13 x14 x15 x16 x17 x18 x19 x20 x21 x22 x23 x24 x25 x26 x27 x28 x29 x30 x31 x32 x33 x34 x35 x36 x37 x38 x39 x40 x41 x42 x43 x44 x45 x46 x47 x48 x49 x50 x51 x52 x53 x54 x55 x56 x57 x58 x59 x60 x61 x62 x63 x64 x65 x66 x67 x68 x69 x70 x71 x72 x73 x74 x75 x76 x77 x78 x79 x80 x81 x82 x83 x84 x85 x86 x87 x88 x89 x90 x91 x92 m0 m1 m2 m3 m4 m5 m6 m7 m8 m9 m10 m11 m12 m13 m14 m15 m16 m17 m18 m19 m20 m21 m22 m23 m24 m25 m26 m27 m28 m29 m30 m31 m32 m33 m34 m35 : Nat) (k : Nat) (h1 : 0 ≤ k) (h2 : k < 16) : ∃ e, (bw_lx w x0 x1 x2 x3 x4 x5 x6 x7 x8 x9 x10 x11 x12 x13 x14 x15 x16 x17 x18 x19 x20 x21 x22 x23 x24 x25 x26 x27 x28 x29 x30 x31 x32 x33 x34 x35 x36 x37 x38 x39 x40 x41 x42 x43 x44 x45 x46 x47 x48 x49 x50 x51 x52 x53 x54 x55 x56 x57 x58 x59 x60 x61 x62 x63 x64 x65 x66 x67 x68 x69 x70 x71 x72 x73 x74 x75 x76 x77 x78 x79 x80 x81 x82 x83 x84 x85 x86 x87 x88 x89 x90 x91 x92 ++ bw_lm w m0 m1 m2 m3 m4 m5 m6 m7 m8 m9 m10 m11 m12 m13 m14 m15 m16 m17 m18 m19 m20 m21 m22 m23 m24 m25 m26 m27 m28 m29 m30 m31 m32 m33 m34 m35)[bw_ps.getD k 0]? = some (bw_ad (bw_wa w (bw_ax x0 x1 x2 x3 x4 x5 x6 x7 x8 x9 x10 x11 x12 x13 x14 x15 x16 x17 x18 x19 x20 x21 x22 x23 x24 x25 x26 x27 x28 x29 x30 x31 x32 x33 x34 x35 x36 x37 x38 x39 x40 x41 x42 x43 x44 x45 x46 x47 x48 x49 x50 x51 x52 x53 x54 x55 x56 x57 x58 x59 x60 x61 x62 x63 x64 x65 x66 x67 x68 x69 x70 x71 x72 x73 x74 x75 x76 x77 x78 x79 x80 x81 x82 x83 x84 x85 x86 x87 x88 x89 x90 x91 x92 m0 m1 m2 m3 m4 m5 m6 m7 m8 m9 m10 m11 m12 m13 m14 m15 m16 m17 m18 m19 m20 m21 m22 m23 m24 m25 m26 m27 m28 m29 m30 m31 m32 m33 m34 m35)) k, e) ∧ bw_eqE e (bw_E (bw_wa w (bw_ax x0 x1 x2 x3 x4 x5 x6 x7 x8 x9 x10 x11 x12 x13 x14 x15 x16 x17 x18 x19 x20 x21 x22 x23 x24 x25 x26 x27 x28 x29 x30 x31 x32 x33 x34 x35 x36 x37 x38 x39 x40 x41 x42 x43 x44 x45 x46 x47 x48 x49 x50 x51 x52 x53 x54 x55 x56 x57 x58 x59 x60 x61 x62 x63 x64 x65 x66 x67 x68 x69 x70 x71 x72 x73 x74 x75 x76 x77 x78 x79 x80 x81 x82 x83 x84 x85 x86 x87 x88 x89 x90 x91 x92 m0 m1 m2 m3 m4 m5 m6 m7 m8 m9 m10 m11 m12 m13 m14 m15 m16 m17 m18 m19 m20 m21 m22 m23 m24 m25 m26 m27 m28 m29 m30 m31 m32 m33 m34 m35)) k (bw_M0 k)) := by
  rcases (show k = 0 ∨ k = 1 ∨ k = 2 ∨ k = 3 ∨ k = 4 ∨ k = 5 ∨ k = 6 ∨ k = 7 ∨ k = 8 ∨ k = 9 ∨ k = 10 ∨ k = 11 ∨ k = 12 ∨ k = 13 ∨ k = 14 ∨ k = 15 by omega) with rfl | rfl | rfl | rfl | rfl | rfl | rfl | rfl | rfl | rfl | rfl | rfl | rfl | rfl | rfl | rfl
  · exact ⟨_, rfl, bw_eqr rfl⟩
  · exact ⟨_, rfl, bw_eqr rfl⟩
  · exact ⟨_, rfl, bw_eqr rfl⟩
  · exact ⟨_, rfl, bw_eqr rfl⟩
  · exact ⟨_, rfl, bw_eqr rfl⟩
  · exact ⟨_, rfl, bw_eqr rfl⟩
  · exact ⟨_, rfl, bw_eqr rfl⟩
  · exact ⟨_, rfl, bw_eqr rfl⟩
  · exact ⟨_, rfl, bw_eqr rfl⟩
  · exact ⟨_, rfl, bw_eqr rfl⟩
  · exact ⟨_, rfl, bw_eqr rfl⟩
  · exact ⟨_, rfl, bw_eqr rfl⟩
  · exact ⟨_, rfl, bw_eqr rfl⟩
  · exact ⟨_, rfl, bw_eqr rfl⟩
  · exact ⟨_, rfl, bw_eqr rfl⟩
  · exact ⟨_, rfl, bw_eqr rfl⟩
set_option maxRecDepth 20000 in
set_option maxHeartbeats 2000000 in
theorem sg_16 (w : WE) (x0 x1 x2 x3 x4 x5 x6 x7 x8 x9 x10 x11 x12 x13 x14 x15 x16 x17 x18 x19 x20 x21 x22 x23 x24 x25 x26 x27 x28 x29 x30 x31 x32 x33 x34 x35 x36 x37 x38 x39 x40 x41 x42 x43 x44 x45 x46 x47 x48 x49 x50 x51 x52 x53 x54 x55 x56 x57 x58 x59 x60 x61 x62 x63 x64 x65 x66 x67 x68 x69 x70 x71 x72 x73 x74 x75 x76 x77 x78 x79 x80 x81 x82 x83 x84 x85 x86 x87 x88 x89 x90 x91 x92 m0 m1 m2 m3 m4 m5 m6 m7 m8 m9 m10 m11 m12 m13 m14 m15 m16 m17 m18 m19 m20 m21 m22 m23 m24 m25 m26 m27 m28 m29 m30 m31 m32 m33 m34 m35 : Nat) (k : Nat) (h1 : 16 ≤ k) (h2 : k < 32) : ∃ e, (bw_lx w x0 x1 x2 x3 x4 x5 x6 x7 x8 x9 x10 x11 x12 x13 x14 x15 x16 x17 x18 x19 x20 x21 x22 x23 x24 x25 x26 x27 x28 x29 x30 x31 x32 x33 x34 x35 x36 x37 x38 x39 x40 x41 x42 x43 x44 x45 x46 x47 x48 x49 x50 x51 x52 x53 x54 x55 x56 x57 x58 x59 x60 x61 x62 x63 x64 x65 x66 x67 x68 x69 x70 x71 x72 x73 x74 x75 x76 x77 x78 x79 x80 x81 x82 x83 x84 x85 x86 x87 x88 x89 x90 x91 x92 ++ bw_lm w m0 m1 m2 m3 m4 m5 m6 m7 m8 m9 m10 m11 m12 m13 m14 m15 m16 m17 m18 m19 m20 m21 m22 m23 m24 m25 m26 m27 m28 m29 m30 m31 m32 m33 m34 m35)[bw_ps.getD k 0]? = some (bw_ad (bw_wa w (bw_ax x0 x1 x2 x3 x4 x5 x6 x7 x8 x9 x10 x11 x12 x13 x14 x15 x16 x17 x18 x19 x20 x21 x22 x23 x24 x25 x26 x27 x28 x29 x30 x31 x32 x33 x34 x35 x36 x37 x38 x39 x40 x41 x42 x43 x44 x45 x46 x47 x48 x49 x50 x51 x52 x53 x54 x55 x56 x57 x58 x59 x60 x61 x62 x63 x64 x65 x66 x67 x68 x69 x70 x71 x72 x73 x74 x75 x76 x77 x78 x79 x80 x81 x82 x83 x84 x85 x86 x87 x88 x89 x90 x91 x92 m0 m1 m2 m3 m4 m5 m6 m7 m8 m9 m10 m11 m12 m13 m14 m15 m16 m17 m18 m19 m20 m21 m22 m23 m24 m25 m26 m27 m28 m29 m30 m31 m32 m33 m34 m35)) k, e) ∧ bw_eqE e (bw_E (bw_wa w (bw_ax x0 x1 x2 x3 x4 x5 x6 x7 x8 x9 x10 x11 x12 x13 x14 x15 x16 x17 x18 x19 x20 x21 x22 x23 x24 x25 x26 x27 x28 x29 x30 x31 x32 x33 x34 x35 x36 x37 x38 x39 x40 x41 x42 x43 x44 x45 x46 x47 x48 x49 x50 x51 x52 x53 x54 x55 x56 x57 x58 x59 x60 x61 x62 x63 x64 x65 x66 x67 x68 x69 x70 x71 x72 x73 x74 x75 x76 x77 x78 x79 x80 x81 x82 x83 x84 x85 x86 x87 x88 x89 x90 x91 x92 m0 m1 m2 m3 m4 m5 m6 m7 m8 m9 m10 m11 m12 m13 m14 m15 m16 m17 m18 m19 m20 m21 m22 m23 m24 m25 m26 m27 m28 m29 m30 m31 m32 m33 m34 m35)) k (bw_M0 k)) := by
  rcases (show k = 16 ∨ k = 17 ∨ k = 18 ∨ k = 19 ∨ k = 20 ∨ k = 21 ∨ k = 22 ∨ k = 23 ∨ k = 24 ∨ k = 25 ∨ k = 26 ∨ k = 27 ∨ k = 28 ∨ k = 29 ∨ k = 30 ∨ k = 31 by omega) with rfl | rfl | rfl | rfl | rfl | rfl | rfl | rfl | rfl | rfl | rfl | rfl | rfl | rfl | rfl | rfl
  · exact ⟨_, rfl, bw_eqr rfl⟩
  · exact ⟨_, rfl, bw_eqr rfl⟩
  · refine ⟨_, rfl, ?_⟩
    refine bw_eqq (fun i hi => ?_)
    rcases (show i = 0 ∨ i = 1 ∨ i = 2 ∨ i = 3 by omega) with rfl | rfl | rfl | rfl <;> rfl
  · refine ⟨_, rfl, ?_⟩
    refine bw_eqq (fun i hi => ?_)
    rcases (show i = 0 ∨ i = 1 ∨ i = 2 ∨ i = 3 ∨ i = 4 by omega) with rfl | rfl | rfl | rfl | rfl <;> rfl
  · exact ⟨_, rfl, bw_eqr rfl⟩
  · exact ⟨_, rfl, bw_eqr rfl⟩
  · exact ⟨_, rfl, bw_eqr rfl⟩
  · exact ⟨_, rfl, bw_eqr rfl⟩
  · exact ⟨_, rfl, bw_eqr rfl⟩
  · exact ⟨_, rfl, bw_eqr rfl⟩
  · exact ⟨_, rfl, bw_eqr rfl⟩
  · exact ⟨_, rfl, bw_eqr rfl⟩
  · exact ⟨_, rfl, bw_eqr rfl⟩
  · exact ⟨_, rfl, bw_eqr rfl⟩
  · refine ⟨_, rfl, ?_⟩
    refine bw_eqq (fun i hi => ?_)
    rcases (show i = 0 ∨ i = 1 ∨ i = 2 ∨ i = 3 ∨ i = 4 ∨ i = 5 ∨ i = 6 ∨ i = 7 ∨ i = 8 ∨ i = 9 ∨ i = 10 ∨ i = 11 by omega) with rfl | rfl | rfl | rfl | rfl | rfl | rfl | rfl | rfl | rfl | rfl | rfl <;> rfl
  · exact ⟨_, rfl, bw_eqr rfl⟩
set_option maxRecDepth 20000 in
set_option maxHeartbeats 2000000 in
theorem sg_32 (w : WE) (x0 x1 x2 x3 x4 x5 x6 x7 x8 x9 x10 x11 x12 x13 x14 x15 x16 x17 x18 x19 x20 x21 x22 x23 x24 x25 x26 x27 x28 x29 x30 x31 x32 x33 x34 x35 x36 x37 x38 x39 x40 x41 x42 x43 x44 x45 x46 x47 x48 x49 x50 x51 x52 x53 x54 x55 x56 x57 x58 x59 x60 x61 x62 x63 x64 x65 x66 x67 x68 x69 x70 x71 x72 x73 x74 x75 x76 x77 x78 x79 x80 x81 x82 x83 x84 x85 x86 x87 x88 x89 x90 x91 x92 m0 m1 m2 m3 m4 m5 m6 m7 m8 m9 m10 m11 m12 m13 m14 m15 m16 m17 m18 m19 m20 m21 m22 m23 m24 m25 m26 m27 m28 m29 m30 m31 m32 m33 m34 m35 : Nat) (k : Nat) (h1 : 32 ≤ k) (h2 : k < 48) : ∃ e, (bw_lx w x0 x1 x2 x3 x4 x5 x6 x7 x8 x9 x10 x11 x12 x13 x14 x15 x16 x17 x18 x19 x20 x21 x22 x23 x24 x25 x26 x27 x28 x29 x30 x31 x32 x33 x34 x35 x36 x37 x38 x39 x40 x41 x42 x43 x44 x45 x46 x47 x48 x49 x50 x51 x52 x53 x54 x55 x56 x57 x58 x59 x60 x61 x62 x63 x64 x65 x66 x67 x68 x69 x70 x71 x72 x73 x74 x75 x76 x77 x78 x79 x80 x81 x82 x83 x84 x85 x86 x87 x88 x89 x90 x91 x92 ++ bw_lm w m0 m1 m2 m3 m4 m5 m6 m7 m8 m9 m10 m11 m12 m13 m14 m15 m16 m17 m18 m19 m20 m21 m22 m23 m24 m25 m26 m27 m28 m29 m30 m31 m32 m33 m34 m35)[bw_ps.getD k 0]? = some (bw_ad (bw_wa w (bw_ax x0 x1 x2 x3 x4 x5 x6 x7 x8 x9 x10 x11 x12 x13 x14 x15 x16 x17 x18 x19 x20 x21 x22 x23 x24 x25 x26 x27 x28 x29 x30 x31 x32 x33 x34 x35 x36 x37 x38 x39 x40 x41 x42 x43 x44 x45 x46 x47 x48 x49 x50 x51 x52 x53 x54 x55 x56 x57 x58 x59 x60 x61 x62 x63 x64 x65 x66 x67 x68 x69 x70 x71 x72 x73 x74 x75 x76 x77 x78 x79 x80 x81 x82 x83 x84 x85 x86 x87 x88 x89 x90 x91 x92 m0 m1 m2 m3 m4 m5 m6 m7 m8 m9 m10 m11 m12 m13 m14 m15 m16 m17 m18 m19 m20 m21 m22 m23 m24 m25 m26 m27 m28 m29 m30 m31 m32 m33 m34 m35)) k, e) ∧ bw_eqE e (bw_E (bw_wa w (bw_ax x0 x1 x2 x3 x4 x5 x6 x7 x8 x9 x10 x11 x12 x13 x14 x15 x16 x17 x18 x19 x20 x21 x22 x23 x24 x25 x26 x27 x28 x29 x30 x31 x32 x33 x34 x35 x36 x37 x38 x39 x40 x41 x42 x43 x44 x45 x46 x47 x48 x49 x50 x51 x52 x53 x54 x55 x56 x57 x58 x59 x60 x61 x62 x63 x64 x65 x66 x67 x68 x69 x70 x71 x72 x73 x74 x75 x76 x77 x78 x79 x80 x81 x82 x83 x84 x85 x86 x87 x88 x89 x90 x91 x92 m0 m1 m2 m3 m4 m5 m6 m7 m8 m9 m10 m11 m12 m13 m14 m15 m16 m17 m18 m19 m20 m21 m22 m23 m24 m25 m26 m27 m28 m29 m30 m31 m32 m33 m34 m35)) k (bw_M0 k)) := by
  rcases (show k = 32 ∨ k = 33 ∨ k = 34 ∨ k = 35 ∨ k = 36 ∨ k = 37 ∨ k = 38 ∨ k = 39 ∨ k = 40 ∨ k = 41 ∨ k = 42 ∨ k = 43 ∨ k = 44 ∨ k = 45 ∨ k = 46 ∨ k = 47 by omega) with rfl | rfl | rfl | rfl | rfl | rfl | rfl | rfl | rfl | rfl | rfl | rfl | rfl | rfl | rfl | rfl
  · refine ⟨_, rfl, ?_⟩
    refine bw_eqq (fun i hi => ?_)
    rcases (show i = 0 ∨ i = 1 ∨ i = 2 ∨ i = 3 ∨ i = 4 ∨ i = 5 ∨ i = 6 ∨ i = 7 ∨ i = 8 ∨ i = 9 ∨ i = 10 ∨ i = 11 ∨ i = 12 ∨ i = 13 by omega) with rfl | rfl | rfl | rfl | rfl | rfl | rfl | rfl | rfl | rfl | rfl | rfl | rfl | rfl <;> rfl
  · exact ⟨_, rfl, bw_eqr rfl⟩
  · exact ⟨_, rfl, bw_eqr rfl⟩
  · exact ⟨_, rfl, bw_eqr rfl⟩
  · exact ⟨_, rfl, bw_eqr rfl⟩
  · exact ⟨_, rfl, bw_eqr rfl⟩
  · exact ⟨_, rfl, bw_eqr rfl⟩
  · exact ⟨_, rfl, bw_eqr rfl⟩
  · exact ⟨_, rfl, bw_eqr rfl⟩
  · exact ⟨_, rfl, bw_eqr rfl⟩
  · exact ⟨_, rfl, bw_eqr rfl⟩
  · exact ⟨_, rfl, bw_eqr rfl⟩
  · exact ⟨_, rfl, bw_eqr rfl⟩
  · exact ⟨_, rfl, bw_eqr rfl⟩
  · exact ⟨_, rfl, bw_eqr rfl⟩
  · exact ⟨_, rfl, bw_eqr rfl⟩
set_option maxRecDepth 20000 in
set_option maxHeartbeats 2000000 in
theorem sg_48 (w : WE) (x0 x1 x2 x3 x4 x5 x6 x7 x8 x9 x10 x11 x12 x13 x14 x15 x16 x17 x18 x19 x20 x21 x22 x23 x24 x25 x26 x27 x28 x29 x30 x31 x32 x33 x34 x35 x36 x37 x38 x39 x40 x41 x42 x43 x44 x45 x46 x47 x48 x49 x50 x51 x52 x53 x54 x55 x56 x57 x58 x59 x60 x61 x62 x63 x64 x65 x66 x67 x68 x69 x70 x71 x72 x73 x74 x75 x76 x77 x78 x79 x80 x81 x82 x83 x84 x85 x86 x87 x88 x89 x90 x91 x92 m0 m1 m2 m3 m4 m5 m6 m7 m8 m9 m10 m11 m12 m13 m14 m15 m16 m17 m18 m19 m20 m21 m22 m23 m24 m25 m26 m27 m28 m29 m30 m31 m32 m33 m34 m35 : Nat) (k : Nat) (h1 : 48 ≤ k) (h2 : k < 64) : ∃ e, (bw_lx w x0 x1 x2 x3 x4 x5 x6 x7 x8 x9 x10 x11 x12 x13 x14 x15 x16 x17 x18 x19 x20 x21 x22 x23 x24 x25 x26 x27 x28 x29 x30 x31 x32 x33 x34 x35 x36 x37 x38 x39 x40 x41 x42 x43 x44 x45 x46 x47 x48 x49 x50 x51 x52 x53 x54 x55 x56 x57 x58 x59 x60 x61 x62 x63 x64 x65 x66 x67 x68 x69 x70 x71 x72 x73 x74 x75 x76 x77 x78 x79 x80 x81 x82 x83 x84 x85 x86 x87 x88 x89 x90 x91 x92 ++ bw_lm w m0 m1 m2 m3 m4 m5 m6 m7 m8 m9 m10 m11 m12 m13 m14 m15 m16 m17 m18 m19 m20 m21 m22 m23 m24 m25 m26 m27 m28 m29 m30 m31 m32 m33 m34 m35)[bw_ps.getD k 0]? = some (bw_ad (bw_wa w (bw_ax x0 x1 x2 x3 x4 x5 x6 x7 x8 x9 x10 x11 x12 x13 x14 x15 x16 x17 x18 x19 x20 x21 x22 x23 x24 x25 x26 x27 x28 x29 x30 x31 x32 x33 x34 x35 x36 x37 x38 x39 x40 x41 x42 x43 x44 x45 x46 x47 x48 x49 x50 x51 x52 x53 x54 x55 x56 x57 x58 x59 x60 x61 x62 x63 x64 x65 x66 x67 x68 x69 x70 x71 x72 x73 x74 x75 x76 x77 x78 x79 x80 x81 x82 x83 x84 x85 x86 x87 x88 x89 x90 x91 x92 m0 m1 m2 m3 m4 m5 m6 m7 m8 m9 m10 m11 m12 m13 m14 m15 m16 m17 m18 m19 m20 m21 m22 m23 m24 m25 m26 m27 m28 m29 m30 m31 m32 m33 m34 m35)) k, e) ∧ bw_eqE e (bw_E (bw_wa w (bw_ax x0 x1 x2 x3 x4 x5 x6 x7 x8 x9 x10 x11 x12 x13 x14 x15 x16 x17 x18 x19 x20 x21 x22 x23 x24 x25 x26 x27 x28 x29 x30 x31 x32 x33 x34 x35 x36 x37 x38 x39 x40 x41 x42 x43 x44 x45 x46 x47 x48 x49 x50 x51 x52 x53 x54 x55 x56 x57 x58 x59 x60 x61 x62 x63 x64 x65 x66 x67 x68 x69 x70 x71 x72 x73 x74 x75 x76 x77 x78 x79 x80 x81 x82 x83 x84 x85 x86 x87 x88 x89 x90 x91 x92 m0 m1 m2 m3 m4 m5 m6 m7 m8 m9 m10 m11 m12 m13 m14 m15 m16 m17 m18 m19 m20 m21 m22 m23 m24 m25 m26 m27 m28 m29 m30 m31 m32 m33 m34 m35)) k (bw_M0 k)) := by
  rcases (show k = 48 ∨ k = 49 ∨ k = 50 ∨ k = 51 ∨ k = 52 ∨ k = 53 ∨ k = 54 ∨ k = 55 ∨ k = 56 ∨ k = 57 ∨ k = 58 ∨ k = 59 ∨ k = 60 ∨ k = 61 ∨ k = 62 ∨ k = 63 by omega) with rfl | rfl | rfl | rfl | rfl | rfl | rfl | rfl | rfl | rfl | rfl | rfl | rfl | rfl | rfl | rfl
  · exact ⟨_, rfl, bw_eqr rfl⟩
  · exact ⟨_, rfl, bw_eqr rfl⟩
  · refine ⟨_, rfl, ?_⟩
    refine bw_eqq (fun i hi => ?_)
    rcases (show i = 0 ∨ i = 1 ∨ i = 2 ∨ i = 3 ∨ i = 4 ∨ i = 5 ∨ i = 6 ∨ i = 7 ∨ i = 8 ∨ i = 9 ∨ i = 10 ∨ i = 11 by omega) with rfl | rfl | rfl | rfl | rfl | rfl | rfl | rfl | rfl | rfl | rfl | rfl <;> rfl
  · exact ⟨_, rfl, bw_eqr rfl⟩
  · refine ⟨_, rfl, ?_⟩
    refine bw_eqq (fun i hi => ?_)
    rcases (show i = 0 ∨ i = 1 ∨ i = 2 ∨ i = 3 ∨ i = 4 ∨ i = 5 ∨ i = 6 ∨ i = 7 ∨ i = 8 ∨ i = 9 ∨ i = 10 ∨ i = 11 ∨ i = 12 ∨ i = 13 by omega) with rfl | rfl | rfl | rfl | rfl | rfl | rfl | rfl | rfl | rfl | rfl | rfl | rfl | rfl <;> rfl
  · exact ⟨_, rfl, bw_eqr rfl⟩
  · exact ⟨_, rfl, bw_eqr rfl⟩
  · exact ⟨_, rfl, bw_eqr rfl⟩
  · exact ⟨_, rfl, bw_eqr rfl⟩
  · exact ⟨_, rfl, bw_eqr rfl⟩
  · exact ⟨_, rfl, bw_eqr rfl⟩
  · exact ⟨_, rfl, bw_eqr rfl⟩
  · exact ⟨_, rfl, bw_eqr rfl⟩
  · exact ⟨_, rfl, bw_eqr rfl⟩
  · exact ⟨_, rfl, bw_eqr rfl⟩
  · exact ⟨_, rfl, bw_eqr rfl⟩
set_option maxRecDepth 20000 in
set_option maxHeartbeats 2000000 in
theorem sg_64 (w : WE) (x0 x1 x2 x3 x4 x5 x6 x7 x8 x9 x10 x11 x12 x13 x14 x15 x16 x17 x18 x19 x20 x21 x22 x23 x24 x25 x26 x27 x28 x29 x30 x31 x32 x33 x34 x35 x36 x37 x38 x39 x40 x41 x42 x43 x44 x45 x46 x47 x48 x49 x50 x51 x52 x53 x54 x55 x56 x57 x58 x59 x60 x61 x62 x63 x64 x65 x66 x67 x68 x69 x70 x71 x72 x73 x74 x75 x76 x77 x78 x79 x80 x81 x82 x83 x84 x85 x86 x87 x88 x89 x90 x91 x92 m0 m1 m2 m3 m4 m5 m6 m7 m8 m9 m10 m11 m12 m13 m14 m15 m16 m17 m18 m19 m20 m21 m22 m23 m24 m25 m26 m27 m28 m29 m30 m31 m32 m33 m34 m35 : Nat) (k : Nat) (h1 : 64 ≤ k) (h2 : k < 80) : ∃ e, (bw_lx w x0 x1 x2 x3 x4 x5 x6 x7 x8 x9 x10 x11 x12 x13 x14 x15 x16 x17 x18 x19 x20 x21 x22 x23 x24 x25 x26 x27 x28 x29 x30 x31 x32 x33 x34 x35 x36 x37 x38 x39 x40 x41 x42 x43 x44 x45 x46 x47 x48 x49 x50 x51 x52 x53 x54 x55 x56 x57 x58 x59 x60 x61 x62 x63 x64 x65 x66 x67 x68 x69 x70 x71 x72 x73 x74 x75 x76 x77 x78 x79 x80 x81 x82 x83 x84 x85 x86 x87 x88 x89 x90 x91 x92 ++ bw_lm w m0 m1 m2 m3 m4 m5 m6 m7 m8 m9 m10 m11 m12 m13 m14 m15 m16 m17 m18 m19 m20 m21 m22 m23 m24 m25 m26 m27 m28 m29 m30 m31 m32 m33 m34 m35)[bw_ps.getD k 0]? = some (bw_ad (bw_wa w (bw_ax x0 x1 x2 x3 x4 x5 x6 x7 x8 x9 x10 x11 x12 x13 x14 x15 x16 x17 x18 x19 x20 x21 x22 x23 x24 x25 x26 x27 x28 x29 x30 x31 x32 x33 x34 x35 x36 x37 x38 x39 x40 x41 x42 x43 x44 x45 x46 x47 x48 x49 x50 x51 x52 x53 x54 x55 x56 x57 x58 x59 x60 x61 x62 x63 x64 x65 x66 x67 x68 x69 x70 x71 x72 x73 x74 x75 x76 x77 x78 x79 x80 x81 x82 x83 x84 x85 x86 x87 x88 x89 x90 x91 x92 m0 m1 m2 m3 m4 m5 m6 m7 m8 m9 m10 m11 m12 m13 m14 m15 m16 m17 m18 m19 m20 m21 m22 m23 m24 m25 m26 m27 m28 m29 m30 m31 m32 m33 m34 m35)) k, e) ∧ bw_eqE e (bw_E (bw_wa w (bw_ax x0 x1 x2 x3 x4 x5 x6 x7 x8 x9 x10 x11 x12 x13 x14 x15 x16 x17 x18 x19 x20 x21 x22 x23 x24 x25 x26 x27 x28 x29 x30 x31 x32 x33 x34 x35 x36 x37 x38 x39 x40 x41 x42 x43 x44 x45 x46 x47 x48 x49 x50 x51 x52 x53 x54 x55 x56 x57 x58 x59 x60 x61 x62 x63 x64 x65 x66 x67 x68 x69 x70 x71 x72 x73 x74 x75 x76 x77 x78 x79 x80 x81 x82 x83 x84 x85 x86 x87 x88 x89 x90 x91 x92 m0 m1 m2 m3 m4 m5 m6 m7 m8 m9 m10 m11 m12 m13 m14 m15 m16 m17 m18 m19 m20 m21 m22 m23 m24 m25 m26 m27 m28 m29 m30 m31 m32 m33 m34 m35)) k (bw_M0 k)) := by
  rcases (show k = 64 ∨ k = 65 ∨ k = 66 ∨ k = 67 ∨ k = 68 ∨ k = 69 ∨ k = 70 ∨ k = 71 ∨ k = 72 ∨ k = 73 ∨ k = 74 ∨ k = 75 ∨ k = 76 ∨ k = 77 ∨ k = 78 ∨ k = 79 by omega) with rfl | rfl | rfl | rfl | rfl | rfl | rfl | rfl | rfl | rfl | rfl | rfl | rfl | rfl | rfl | rfl
  · exact ⟨_, rfl, bw_eqr rfl⟩
  · exact ⟨_, rfl, bw_eqr rfl⟩
  · exact ⟨_, rfl, bw_eqr rfl⟩
  · exact ⟨_, rfl, bw_eqr rfl⟩
  · exact ⟨_, rfl, bw_eqr rfl⟩
  · exact ⟨_, rfl, bw_eqr rfl⟩
  · exact ⟨_, rfl, bw_eqr rfl⟩
  · exact ⟨_, rfl, bw_eqr rfl⟩
  · exact ⟨_, rfl, bw_eqr rfl⟩
  · exact ⟨_, rfl, bw_eqr rfl⟩
  · exact ⟨_, rfl, bw_eqr rfl⟩
  · exact ⟨_, rfl, bw_eqr rfl⟩
  · exact ⟨_, rfl, bw_eqr rfl⟩
  · exact ⟨_, rfl, bw_eqr rfl⟩
  · exact ⟨_, rfl, bw_eqr rfl⟩
  · exact ⟨_, rfl, bw_eqr rfl⟩
set_option maxRecDepth 20000 in
set_option maxHeartbeats 2000000 in
theorem sg_80 (w : WE) (x0 x1 x2 x3 x4 x5 x6 x7 x8 x9 x10 x11 x12 x13 x14 x15 x16 x17 x18 x19 x20 x21 x22 x23 x24 x25 x26 x27 x28 x29 x30 x31 x32 x33 x34 x35 x36 x37 x38 x39 x40 x41 x42 x43 x44 x45 x46 x47 x48 x49 x50 x51 x52 x53 x54 x55 x56 x57 x58 x59 x60 x61 x62 x63 x64 x65 x66 x67 x68 x69 x70 x71 x72 x73 x74 x75 x76 x77 x78 x79 x80 x81 x82 x83 x84 x85 x86 x87 x88 x89 x90 x91 x92 m0 m1 m2 m3 m4 m5 m6 m7 m8 m9 m10 m11 m12 m13 m14 m15 m16 m17 m18 m19 m20 m21 m22 m23 m24 m25 m26 m27 m28 m29 m30 m31 m32 m33 m34 m35 : Nat) (k : Nat) (h1 : 80 ≤ k) (h2 : k < 96) : ∃ e, (bw_lx w x0 x1 x2 x3 x4 x5 x6 x7 x8 x9 x10 x11 x12 x13 x14 x15 x16 x17 x18 x19 x20 x21 x22 x23 x24 x25 x26 x27 x28 x29 x30 x31 x32 x33 x34 x35 x36 x37 x38 x39 x40 x41 x42 x43 x44 x45 x46 x47 x48 x49 x50 x51 x52 x53 x54 x55 x56 x57 x58 x59 x60 x61 x62 x63 x64 x65 x66 x67 x68 x69 x70 x71 x72 x73 x74 x75 x76 x77 x78 x79 x80 x81 x82 x83 x84 x85 x86 x87 x88 x89 x90 x91 x92 ++ bw_lm w m0 m1 m2 m3 m4 m5 m6 m7 m8 m9 m10 m11 m12 m13 m14 m15 m16 m17 m18 m19 m20 m21 m22 m23 m24 m25 m26 m27 m28 m29 m30 m31 m32 m33 m34 m35)[bw_ps.getD k 0]? = some (bw_ad (bw_wa w (bw_ax x0 x1 x2 x3 x4 x5 x6 x7 x8 x9 x10 x11 x12 x13 x14 x15 x16 x17 x18 x19 x20 x21 x22 x23 x24 x25 x26 x27 x28 x29 x30 x31 x32 x33 x34 x35 x36 x37 x38 x39 x40 x41 x42 x43 x44 x45 x46 x47 x48 x49 x50 x51 x52 x53 x54 x55 x56 x57 x58 x59 x60 x61 x62 x63 x64 x65 x66 x67 x68 x69 x70 x71 x72 x73 x74 x75 x76 x77 x78 x79 x80 x81 x82 x83 x84 x85 x86 x87 x88 x89 x90 x91 x92 m0 m1 m2 m3 m4 m5 m6 m7 m8 m9 m10 m11 m12 m13 m14 m15 m16 m17 m18 m19 m20 m21 m22 m23 m24 m25 m26 m27 m28 m29 m30 m31 m32 m33 m34 m35)) k, e) ∧ bw_eqE e (bw_E (bw_wa w (bw_ax x0 x1 x2 x3 x4 x5 x6 x7 x8 x9 x10 x11 x12 x13 x14 x15 x16 x17 x18 x19 x20 x21 x22 x23 x24 x25 x26 x27 x28 x29 x30 x31 x32 x33 x34 x35 x36 x37 x38 x39 x40 x41 x42 x43 x44 x45 x46 x47 x48 x49 x50 x51 x52 x53 x54 x55 x56 x57 x58 x59 x60 x61 x62 x63 x64 x65 x66 x67 x68 x69 x70 x71 x72 x73 x74 x75 x76 x77 x78 x79 x80 x81 x82 x83 x84 x85 x86 x87 x88 x89 x90 x91 x92 m0 m1 m2 m3 m4 m5 m6 m7 m8 m9 m10 m11 m12 m13 m14 m15 m16 m17 m18 m19 m20 m21 m22 m23 m24 m25 m26 m27 m28 m29 m30 m31 m32 m33 m34 m35)) k (bw_M0 k)) := by
  rcases (show k = 80 ∨ k = 81 ∨ k = 82 ∨ k = 83 ∨ k = 84 ∨ k = 85 ∨ k = 86 ∨ k = 87 ∨ k = 88 ∨ k = 89 ∨ k = 90 ∨ k = 91 ∨ k = 92 ∨ k = 93 ∨ k = 94 ∨ k = 95 by omega) with rfl | rfl | rfl | rfl | rfl | rfl | rfl | rfl | rfl | rfl | rfl | rfl | rfl | rfl | rfl | rfl
  · exact ⟨_, rfl, bw_eqr rfl⟩
  · exact ⟨_, rfl, bw_eqr rfl⟩
  · exact ⟨_, rfl, bw_eqr rfl⟩
  · exact ⟨_, rfl, bw_eqr rfl⟩
  · exact ⟨_, rfl, bw_eqr rfl⟩
  · exact ⟨_, rfl, bw_eqr rfl⟩
  · exact ⟨_, rfl, bw_eqr rfl⟩
  · exact ⟨_, rfl, bw_eqr rfl⟩
  · exact ⟨_, rfl, bw_eqr rfl⟩
  · exact ⟨_, rfl, bw_eqr rfl⟩
  · exact ⟨_, rfl, bw_eqr rfl⟩
  · exact ⟨_, rfl, bw_eqr rfl⟩
  · exact ⟨_, rfl, bw_eqr rfl⟩
  · exact ⟨_, rfl, bw_eqr rfl⟩
  · exact ⟨_, rfl, bw_eqr rfl⟩
  · exact ⟨_, rfl, bw_eqr rfl⟩
set_option maxRecDepth 20000 in
set_option maxHeartbeats 2000000 in
theorem sg_96 (w : WE) (x0 x1 x2 x3 x4 x5 x6 x7 x8 x9 x10 x11 x12 x13 x14 x15 x16 x17 x18 x19 x20 x21 x22 x23 x24 x25 x26 x27 x28 x29 x30 x31 x32 x33 x34 x35 x36 x37 x38 x39 x40 x41 x42 x43 x44 x45 x46 x47 x48 x49 x50 x51 x52 x53 x54 x55 x56 x57 x58 x59 x60 x61 x62 x63 x64 x65 x66 x67 x68 x69 x70 x71 x72 x73 x74 x75 x76 x77 x78 x79 x80 x81 x82 x83 x84 x85 x86 x87 x88 x89 x90 x91 x92 m0 m1 m2 m3 m4 m5 m6 m7 m8 m9 m10 m11 m12 m13 m14 m15 m16 m17 m18 m19 m20 m21 m22 m23 m24 m25 m26 m27 m28 m29 m30 m31 m32 m33 m34 m35 : Nat) (k : Nat) (h1 : 96 ≤ k) (h2 : k < 112) : ∃ e, (bw_lx w x0 x1 x2 x3 x4 x5 x6 x7 x8 x9 x10 x11 x12 x13 x14 x15 x16 x17 x18 x19 x20 x21 x22 x23 x24 x25 x26 x27 x28 x29 x30 x31 x32 x33 x34 x35 x36 x37 x38 x39 x40 x41 x42 x43 x44 x45 x46 x47 x48 x49 x50 x51 x52 x53 x54 x55 x56 x57 x58 x59 x60 x61 x62 x63 x64 x65 x66 x67 x68 x69 x70 x71 x72 x73 x74 x75 x76 x77 x78 x79 x80 x81 x82 x83 x84 x85 x86 x87 x88 x89 x90 x91 x92 ++ bw_lm w m0 m1 m2 m3 m4 m5 m6 m7 m8 m9 m10 m11 m12 m13 m14 m15 m16 m17 m18 m19 m20 m21 m22 m23 m24 m25 m26 m27 m28 m29 m30 m31 m32 m33 m34 m35)[bw_ps.getD k 0]? = some (bw_ad (bw_wa w (bw_ax x0 x1 x2 x3 x4 x5 x6 x7 x8 x9 x10 x11 x12 x13 x14 x15 x16 x17 x18 x19 x20 x21 x22 x23 x24 x25 x26 x27 x28 x29 x30 x31 x32 x33 x34 x35 x36 x37 x38 x39 x40 x41 x42 x43 x44 x45 x46 x47 x48 x49 x50 x51 x52 x53 x54 x55 x56 x57 x58 x59 x60 x61 x62 x63 x64 x65 x66 x67 x68 x69 x70 x71 x72 x73 x74 x75 x76 x77 x78 x79 x80 x81 x82 x83 x84 x85 x86 x87 x88 x89 x90 x91 x92 m0 m1 m2 m3 m4 m5 m6 m7 m8 m9 m10 m11 m12 m13 m14 m15 m16 m17 m18 m19 m20 m21 m22 m23 m24 m25 m26 m27 m28 m29 m30 m31 m32 m33 m34 m35)) k, e) ∧ bw_eqE e (bw_E (bw_wa w (bw_ax x0 x1 x2 x3 x4 x5 x6 x7 x8 x9 x10 x11 x12 x13 x14 x15 x16 x17 x18 x19 x20 x21 x22 x23 x24 x25 x26 x27 x28 x29 x30 x31 x32 x33 x34 x35 x36 x37 x38 x39 x40 x41 x42 x43 x44 x45 x46 x47 x48 x49 x50 x51 x52 x53 x54 x55 x56 x57 x58 x59 x60 x61 x62 x63 x64 x65 x66 x67 x68 x69 x70 x71 x72 x73 x74 x75 x76 x77 x78 x79 x80 x81 x82 x83 x84 x85 x86 x87 x88 x89 x90 x91 x92 m0 m1 m2 m3 m4 m5 m6 m7 m8 m9 m10 m11 m12 m13 m14 m15 m16 m17 m18 m19 m20 m21 m22 m23 m24 m25 m26 m27 m28 m29 m30 m31 m32 m33 m34 m35)) k (bw_M0 k)) := by
  rcases (show k = 96 ∨ k = 97 ∨ k = 98 ∨ k = 99 ∨ k = 100 ∨ k = 101 ∨ k = 102 ∨ k = 103 ∨ k = 104 ∨ k = 105 ∨ k = 106 ∨ k = 107 ∨ k = 108 ∨ k = 109 ∨ k = 110 ∨ k = 111 by omega) with rfl | rfl | rfl | rfl | rfl | rfl | rfl | rfl | rfl | rfl | rfl | rfl | rfl | rfl | rfl | rfl
  · exact ⟨_, rfl, bw_eqr rfl⟩
  · exact ⟨_, rfl, bw_eqr rfl⟩
  · exact ⟨_, rfl, bw_eqr rfl⟩
  · exact ⟨_, rfl, bw_eqr rfl⟩
  · exact ⟨_, rfl, bw_eqr rfl⟩
  · exact ⟨_, rfl, bw_eqr rfl⟩
  · exact ⟨_, rfl, bw_eqr rfl⟩
  · exact ⟨_, rfl, bw_eqr rfl⟩
  · exact ⟨_, rfl, bw_eqr rfl⟩
  · exact ⟨_, rfl, bw_eqr rfl⟩
  · exact ⟨_, rfl, bw_eqr rfl⟩
  · exact ⟨_, rfl, bw_eqr rfl⟩
  · exact ⟨_, rfl, bw_eqr rfl⟩
  · exact ⟨_, rfl, bw_eqr rfl⟩
  · exact ⟨_, rfl, bw_eqr rfl⟩
  · exact ⟨_, rfl, bw_eqr rfl⟩
set_option maxRecDepth 20000 in
set_option maxHeartbeats 2000000 in
theorem sg_112 (w : WE) (x0 x1 x2 x3 x4 x5 x6 x7 x8 x9 x10 x11 x12 x13 x14 x15 x16 x17 x18 x19 x20 x21 x22 x23 x24 x25 x26 x27 x28 x29 x30 x31 x32 x33 x34 x35 x36 x37 x38 x39 x40 x41 x42 x43 x44 x45 x46 x47 x48 x49 x50 x51 x52 x53 x54 x55 x56 x57 x58 x59 x60 x61 x62 x63 x64 x65 x66 x67 x68 x69 x70 x71 x72 x73 x74 x75 x76 x77 x78 x79 x80 x81 x82 x83 x84 x85 x86 x87 x88 x89 x90 x91 x92 m0 m1 m2 m3 m4 m5 m6 m7 m8 m9 m10 m11 m12 m13 m14 m15 m16 m17 m18 m19 m20 m21 m22 m23 m24 m25 m26 m27 m28 m29 m30 m31 m32 m33 m34 m35 : Nat) (k : Nat) (h1 : 112 ≤ k) (h2 : k < 128) : ∃ e, (bw_lx w x0 x1 x2 x3 x4 x5 x6 x7 x8 x9 x10 x11 x12 x13 x14 x15 x16 x17 x18 x19 x20 x21 x22 x23 x24 x25 x26 x27 x28 x29 x30 x31 x32 x33 x34 x35 x36 x37 x38 x39 x40 x41 x42 x43 x44 x45 x46 x47 x48 x49 x50 x51 x52 x53 x54 x55 x56 x57 x58 x59 x60 x61 x62 x63 x64 x65 x66 x67 x68 x69 x70 x71 x72 x73 x74 x75 x76 x77 x78 x79 x80 x81 x82 x83 x84 x85 x86 x87 x88 x89 x90 x91 x92 ++ bw_lm w m0 m1 m2 m3 m4 m5 m6 m7 m8 m9 m10 m11 m12 m13 m14 m15 m16 m17 m18 m19 m20 m21 m22 m23 m24 m25 m26 m27 m28 m29 m30 m31 m32 m33 m34 m35)[bw_ps.getD k 0]? = some (bw_ad (bw_wa w (bw_ax x0 x1 x2 x3 x4 x5 x6 x7 x8 x9 x10 x11 x12 x13 x14 x15 x16 x17 x18 x19 x20 x21 x22 x23 x24 x25 x26 x27 x28 x29 x30 x31 x32 x33 x34 x35 x36 x37 x38 x39 x40 x41 x42 x43 x44 x45 x46 x47 x48 x49 x50 x51 x52 x53 x54 x55 x56 x57 x58 x59 x60 x61 x62 x63 x64 x65 x66 x67 x68 x69 x70 x71 x72 x73 x74 x75 x76 x77 x78 x79 x80 x81 x82 x83 x84 x85 x86 x87 x88 x89 x90 x91 x92 m0 m1 m2 m3 m4 m5 m6 m7 m8 m9 m10 m11 m12 m13 m14 m15 m16 m17 m18 m19 m20 m21 m22 m23 m24 m25 m26 m27 m28 m29 m30 m31 m32 m33 m34 m35)) k, e) ∧ bw_eqE e (bw_E (bw_wa w (bw_ax x0 x1 x2 x3 x4 x5 x6 x7 x8 x9 x10 x11 x12 x13 x14 x15 x16 x17 x18 x19 x20 x21 x22 x23 x24 x25 x26 x27 x28 x29 x30 x31 x32 x33 x34 x35 x36 x37 x38 x39 x40 x41 x42 x43 x44 x45 x46 x47 x48 x49 x50 x51 x52 x53 x54 x55 x56 x57 x58 x59 x60 x61 x62 x63 x64 x65 x66 x67 x68 x69 x70 x71 x72 x73 x74 x75 x76 x77 x78 x79 x80 x81 x82 x83 x84 x85 x86 x87 x88 x89 x90 x91 x92 m0 m1 m2 m3 m4 m5 m6 m7 m8 m9 m10 m11 m12 m13 m14 m15 m16 m17 m18 m19 m20 m21 m22 m23 m24 m25 m26 m27 m28 m29 m30 m31 m32 m33 m34 m35)) k (bw_M0 k)) := by
  rcases (show k = 112 ∨ k = 113 ∨ k = 114 ∨ k = 115 ∨ k = 116 ∨ k = 117 ∨ k = 118 ∨ k = 119 ∨ k = 120 ∨ k = 121 ∨ k = 122 ∨ k = 123 ∨ k = 124 ∨ k = 125 ∨ k = 126 ∨ k = 127 by omega) with rfl | rfl | rfl | rfl | rfl | rfl | rfl | rfl | rfl | rfl | rfl | rfl | rfl | rfl | rfl | rfl
  · exact ⟨_, rfl, bw_eqr rfl⟩
  · exact ⟨_, rfl, bw_eqr rfl⟩
  · exact ⟨_, rfl, bw_eqr rfl⟩
  · exact ⟨_, rfl, bw_eqr rfl⟩
  · exact ⟨_, rfl, bw_eqr rfl⟩
  · exact ⟨_, rfl, bw_eqr rfl⟩
  · exact ⟨_, rfl, bw_eqr rfl⟩
  · exact ⟨_, rfl, bw_eqr rfl⟩
  · exact ⟨_, rfl, bw_eqr rfl⟩
  · exact ⟨_, rfl, bw_eqr rfl⟩
  · exact ⟨_, rfl, bw_eqr rfl⟩
  · exact ⟨_, rfl, bw_eqr rfl⟩
  · exact ⟨_, rfl, bw_eqr rfl⟩
  · exact ⟨_, rfl, bw_eqr rfl⟩
  · exact ⟨_, rfl, bw_eqr rfl⟩
  · exact ⟨_, rfl, bw_eqr rfl⟩
set_option maxRecDepth 20000 in
set_option maxHeartbeats 2000000 in
theorem sg_128 (w : WE) (x0 x1 x2 x3 x4 x5 x6 x7 x8 x9 x10 x11 x12 x13 x14 x15 x16 x17 x18 x19 x20 x21 x22 x23 x24 x25 x26 x27 x28 x29 x30 x31 x32 x33 x34 x35 x36 x37 x38 x39 x40 x41 x42 x43 x44 x45 x46 x47 x48 x49 x50 x51 x52 x53 x54 x55 x56 x57 x58 x59 x60 x61 x62 x63 x64 x65 x66 x67 x68 x69 x70 x71 x72 x73 x74 x75 x76 x77 x78 x79 x80 x81 x82 x83 x84 x85 x86 x87 x88 x89 x90 x91 x92 m0 m1 m2 m3 m4 m5 m6 m7 m8 m9 m10 m11 m12 m13 m14 m15 m16 m17 m18 m19 m20 m21 m22 m23 m24 m25 m26 m27 m28 m29 m30 m31 m32 m33 m34 m35 : Nat) (k : Nat) (h1 : 128 ≤ k) (h2 : k < 129) : ∃ e, (bw_lx w x0 x1 x2 x3 x4 x5 x6 x7 x8 x9 x10 x11 x12 x13 x14 x15 x16 x17 x18 x19 x20 x21 x22 x23 x24 x25 x26 x27 x28 x29 x30 x31 x32 x33 x34 x35 x36 x37 x38 x39 x40 x41 x42 x43 x44 x45 x46 x47 x48 x49 x50 x51 x52 x53 x54 x55 x56 x57 x58 x59 x60 x61 x62 x63 x64 x65 x66 x67 x68 x69 x70 x71 x72 x73 x74 x75 x76 x77 x78 x79 x80 x81 x82 x83 x84 x85 x86 x87 x88 x89 x90 x91 x92 ++ bw_lm w m0 m1 m2 m3 m4 m5 m6 m7 m8 m9 m10 m11 m12 m13 m14 m15 m16 m17 m18 m19 m20 m21 m22 m23 m24 m25 m26 m27 m28 m29 m30 m31 m32 m33 m34 m35)[bw_ps.getD k 0]? = some (bw_ad (bw_wa w (bw_ax x0 x1 x2 x3 x4 x5 x6 x7 x8 x9 x10 x11 x12 x13 x14 x15 x16 x17 x18 x19 x20 x21 x22 x23 x24 x25 x26 x27 x28 x29 x30 x31 x32 x33 x34 x35 x36 x37 x38 x39 x40 x41 x42 x43 x44 x45 x46 x47 x48 x49 x50 x51 x52 x53 x54 x55 x56 x57 x58 x59 x60 x61 x62 x63 x64 x65 x66 x67 x68 x69 x70 x71 x72 x73 x74 x75 x76 x77 x78 x79 x80 x81 x82 x83 x84 x85 x86 x87 x88 x89 x90 x91 x92 m0 m1 m2 m3 m4 m5 m6 m7 m8 m9 m10 m11 m12 m13 m14 m15 m16 m17 m18 m19 m20 m21 m22 m23 m24 m25 m26 m27 m28 m29 m30 m31 m32 m33 m34 m35)) k, e) ∧ bw_eqE e (bw_E (bw_wa w (bw_ax x0 x1 x2 x3 x4 x5 x6 x7 x8 x9 x10 x11 x12 x13 x14 x15 x16 x17 x18 x19 x20 x21 x22 x23 x24 x25 x26 x27 x28 x29 x30 x31 x32 x33 x34 x35 x36 x37 x38 x39 x40 x41 x42 x43 x44 x45 x46 x47 x48 x49 x50 x51 x52 x53 x54 x55 x56 x57 x58 x59 x60 x61 x62 x63 x64 x65 x66 x67 x68 x69 x70 x71 x72 x73 x74 x75 x76 x77 x78 x79 x80 x81 x82 x83 x84 x85 x86 x87 x88 x89 x90 x91 x92 m0 m1 m2 m3 m4 m5 m6 m7 m8 m9 m10 m11 m12 m13 m14 m15 m16 m17 m18 m19 m20 m21 m22 m23 m24 m25 m26 m27 m28 m29 m30 m31 m32 m33 m34 m35)) k (bw_M0 k)) := by
  rcases (show k = 128 by omega) with rfl
  · exact ⟨_, rfl, bw_eqr rfl⟩
theorem sg_all (w : WE) (x0 x1 x2 x3 x4 x5 x6 x7 x8 x9 x10 x11 x12 x13 x14 x15 x16 x17 x18 x19 x20 x21 x22 x23 x24 x25 x26 x27 x28 x29 x30 x31 x32 x33 x34 x35 x36 x37 x38 x39 x40 x41 x42 x43 x44 x45 x46 x47 x48 x49 x50 x51 x52 x53 x54 x55 x56 x57 x58 x59 x60 x61 x62 x63 x64 x65 x66 x67 x68 x69 x70 x71 x72 x73 x74 x75 x76 x77 x78 x79 x80 x81 x82 x83 x84 x85 x86 x87 x88 x89 x90 x91 x92 m0 m1 m2 m3 m4 m5 m6 m7 m8 m9 m10 m11 m12 m13 m14 m15 m16 m17 m18 m19 m20 m21 m22 m23 m24 m25 m26 m27 m28 m29 m30 m31 m32 m33 m34 m35 : Nat) (k : Nat) (h2 : k < 129) : ∃ e, (bw_lx w x0 x1 x2 x3 x4 x5 x6 x7 x8 x9 x10 x11 x12 x13 x14 x15 x16 x17 x18 x19 x20 x21 x22 x23 x24 x25 x26 x27 x28 x29 x30 x31 x32 x33 x34 x35 x36 x37 x38 x39 x40 x41 x42 x43 x44 x45 x46 x47 x48 x49 x50 x51 x52 x53 x54 x55 x56 x57 x58 x59 x60 x61 x62 x63 x64 x65 x66 x67 x68 x69 x70 x71 x72 x73 x74 x75 x76 x77 x78 x79 x80 x81 x82 x83 x84 x85 x86 x87 x88 x89 x90 x91 x92 ++ bw_lm w m0 m1 m2 m3 m4 m5 m6 m7 m8 m9 m10 m11 m12 m13 m14 m15 m16 m17 m18 m19 m20 m21 m22 m23 m24 m25 m26 m27 m28 m29 m30 m31 m32 m33 m34 m35)[bw_ps.getD k 0]? = some (bw_ad (bw_wa w (bw_ax x0 x1 x2 x3 x4 x5 x6 x7 x8 x9 x10 x11 x12 x13 x14 x15 x16 x17 x18 x19 x20 x21 x22 x23 x24 x25 x26 x27 x28 x29 x30 x31 x32 x33 x34 x35 x36 x37 x38 x39 x40 x41 x42 x43 x44 x45 x46 x47 x48 x49 x50 x51 x52 x53 x54 x55 x56 x57 x58 x59 x60 x61 x62 x63 x64 x65 x66 x67 x68 x69 x70 x71 x72 x73 x74 x75 x76 x77 x78 x79 x80 x81 x82 x83 x84 x85 x86 x87 x88 x89 x90 x91 x92 m0 m1 m2 m3 m4 m5 m6 m7 m8 m9 m10 m11 m12 m13 m14 m15 m16 m17 m18 m19 m20 m21 m22 m23 m24 m25 m26 m27 m28 m29 m30 m31 m32 m33 m34 m35)) k, e) ∧ bw_eqE e (bw_E (bw_wa w (bw_ax x0 x1 x2 x3 x4 x5 x6 x7 x8 x9 x10 x11 x12 x13 x14 x15 x16 x17 x18 x19 x20 x21 x22 x23 x24 x25 x26 x27 x28 x29 x30 x31 x32 x33 x34 x35 x36 x37 x38 x39 x40 x41 x42 x43 x44 x45 x46 x47 x48 x49 x50 x51 x52 x53 x54 x55 x56 x57 x58 x59 x60 x61 x62 x63 x64 x65 x66 x67 x68 x69 x70 x71 x72 x73 x74 x75 x76 x77 x78 x79 x80 x81 x82 x83 x84 x85 x86 x87 x88 x89 x90 x91 x92 m0 m1 m2 m3 m4 m5 m6 m7 m8 m9 m10 m11 m12 m13 m14 m15 m16 m17 m18 m19 m20 m21 m22 m23 m24 m25 m26 m27 m28 m29 m30 m31 m32 m33 m34 m35)) k (bw_M0 k)) := by
  by_cases c0 : k < 16
  · exact sg_0 w x0 x1 x2 x3 x4 x5 x6 x7 x8 x9 x10 x11 x12 x13 x14 x15 x16 x17 x18 x19 x20 x21 x22 x23 x24 x25 x26 x27 x28 x29 x30 x31 x32 x33 x34 x35 x36 x37 x38 x39 x40 x41 x42 x43 x44 x45 x46 x47 x48 x49 x50 x51 x52 x53 x54 x55 x56 x57 x58 x59 x60 x61 x62 x63 x64 x65 x66 x67 x68 x69 x70 x71 x72 x73 x74 x75 x76 x77 x78 x79 x80 x81 x82 x83 x84 x85 x86 x87 x88 x89 x90 x91 x92 m0 m1 m2 m3 m4 m5 m6 m7 m8 m9 m10 m11 m12 m13 m14 m15 m16 m17 m18 m19 m20 m21 m22 m23 m24 m25 m26 m27 m28 m29 m30 m31 m32 m33 m34 m35 k (by omega) c0
  by_cases c16 : k < 32
  · exact sg_16 w x0 x1 x2 x3 x4 x5 x6 x7 x8 x9 x10 x11 x12 x13 x14 x15 x16 x17 x18 x19 x20 x21 x22 x23 x24 x25 x26 x27 x28 x29 x30 x31 x32 x33 x34 x35 x36 x37 x38 x39 x40 x41 x42 x43 x44 x45 x46 x47 x48 x49 x50 x51 x52 x53 x54 x55 x56 x57 x58 x59 x60 x61 x62 x63 x64 x65 x66 x67 x68 x69 x70 x71 x72 x73 x74 x75 x76 x77 x78 x79 x80 x81 x82 x83 x84 x85 x86 x87 x88 x89 x90 x91 x92 m0 m1 m2 m3 m4 m5 m6 m7 m8 m9 m10 m11 m12 m13 m14 m15 m16 m17 m18 m19 m20 m21 m22 m23 m24 m25 m26 m27 m28 m29 m30 m31 m32 m33 m34 m35 k (by omega) c16
  by_cases c32 : k < 48
  · exact sg_32 w x0 x1 x2 x3 x4 x5 x6 x7 x8 x9 x10 x11 x12 x13 x14 x15 x16 x17 x18 x19 x20 x21 x22 x23 x24 x25 x26 x27 x28 x29 x30 x31 x32 x33 x34 x35 x36 x37 x38 x39 x40 x41 x42 x43 x44 x45 x46 x47 x48 x49 x50 x51 x52 x53 x54 x55 x56 x57 x58 x59 x60 x61 x62 x63 x64 x65 x66 x67 x68 x69 x70 x71 x72 x73 x74 x75 x76 x77 x78 x79 x80 x81 x82 x83 x84 x85 x86 x87 x88 x89 x90 x91 x92 m0 m1 m2 m3 m4 m5 m6 m7 m8 m9 m10 m11 m12 m13 m14 m15 m16 m17 m18 m19 m20 m21 m22 m23 m24 m25 m26 m27 m28 m29 m30 m31 m32 m33 m34 m35 k (by omega) c32
  by_cases c48 : k < 64
  · exact sg_48 w x0 x1 x2 x3 x4 x5 x6 x7 x8 x9 x10 x11 x12 x13 x14 x15 x16 x17 x18 x19 x20 x21 x22 x23 x24 x25 x26 x27 x28 x29 x30 x31 x32 x33 x34 x35 x36 x37 x38 x39 x40 x41 x42 x43 x44 x45 x46 x47 x48 x49 x50 x51 x52 x53 x54 x55 x56 x57 x58 x59 x60 x61 x62 x63 x64 x65 x66 x67 x68 x69 x70 x71 x72 x73 x74 x75 x76 x77 x78 x79 x80 x81 x82 x83 x84 x85 x86 x87 x88 x89 x90 x91 x92 m0 m1 m2 m3 m4 m5 m6 m7 m8 m9 m10 m11 m12 m13 m14 m15 m16 m17 m18 m19 m20 m21 m22 m23 m24 m25 m26 m27 m28 m29 m30 m31 m32 m33 m34 m35 k (by omega) c48
  by_cases c64 : k < 80
  · exact sg_64 w x0 x1 x2 x3 x4 x5 x6 x7 x8 x9 x10 x11 x12 x13 x14 x15 x16 x17 x18 x19 x20 x21 x22 x23 x24 x25 x26 x27 x28 x29 x30 x31 x32 x33 x34 x35 x36 x37 x38 x39 x40 x41 x42 x43 x44 x45 x46 x47 x48 x49 x50 x51 x52 x53 x54 x55 x56 x57 x58 x59 x60 x61 x62 x63 x64 x65 x66 x67 x68 x69 x70 x71 x72 x73 x74 x75 x76 x77 x78 x79 x80 x81 x82 x83 x84 x85 x86 x87 x88 x89 x90 x91 x92 m0 m1 m2 m3 m4 m5 m6 m7 m8 m9 m10 m11 m12 m13 m14 m15 m16 m17 m18 m19 m20 m21 m22 m23 m24 m25 m26 m27 m28 m29 m30 m31 m32 m33 m34 m35 k (by omega) c64
  by_cases c80 : k < 96
  · exact sg_80 w x0 x1 x2 x3 x4 x5 x6 x7 x8 x9 x10 x11 x12 x13 x14 x15 x16 x17 x18 x19 x20 x21 x22 x23 x24 x25 x26 x27 x28 x29 x30 x31 x32 x33 x34 x35 x36 x37 x38 x39 x40 x41 x42 x43 x44 x45 x46 x47 x48 x49 x50 x51 x52 x53 x54 x55 x56 x57 x58 x59 x60 x61 x62 x63 x64 x65 x66 x67 x68 x69 x70 x71 x72 x73 x74 x75 x76 x77 x78 x79 x80 x81 x82 x83 x84 x85 x86 x87 x88 x89 x90 x91 x92 m0 m1 m2 m3 m4 m5 m6 m7 m8 m9 m10 m11 m12 m13 m14 m15 m16 m17 m18 m19 m20 m21 m22 m23 m24 m25 m26 m27 m28 m29 m30 m31 m32 m33 m34 m35 k (by omega) c80
  by_cases c96 : k < 112
  · exact sg_96 w x0 x1 x2 x3 x4 x5 x6 x7 x8 x9 x10 x11 x12 x13 x14 x15 x16 x17 x18 x19 x20 x21 x22 x23 x24 x25 x26 x27 x28 x29 x30 x31 x32 x33 x34 x35 x36 x37 x38 x39 x40 x41 x42 x43 x44 x45 x46 x47 x48 x49 x50 x51 x52 x53 x54 x55 x56 x57 x58 x59 x60 x61 x62 x63 x64 x65 x66 x67 x68 x69 x70 x71 x72 x73 x74 x75 x76 x77 x78 x79 x80 x81 x82 x83 x84 x85 x86 x87 x88 x89 x90 x91 x92 m0 m1 m2 m3 m4 m5 m6 m7 m8 m9 m10 m11 m12 m13 m14 m15 m16 m17 m18 m19 m20 m21 m22 m23 m24 m25 m26 m27 m28 m29 m30 m31 m32 m33 m34 m35 k (by omega) c96
  by_cases c112 : k < 128
  · exact sg_112 w x0 x1 x2 x3 x4 x5 x6 x7 x8 x9 x10 x11 x12 x13 x14 x15 x16 x17 x18 x19 x20 x21 x22 x23 x24 x25 x26 x27 x28 x29 x30 x31 x32 x33 x34 x35 x36 x37 x38 x39 x40 x41 x42 x43 x44 x45 x46 x47 x48 x49 x50 x51 x52 x53 x54 x55 x56 x57 x58 x59 x60 x61 x62 x63 x64 x65 x66 x67 x68 x69 x70 x71 x72 x73 x74 x75 x76 x77 x78 x79 x80 x81 x82 x83 x84 x85 x86 x87 x88 x89 x90 x91 x92 m0 m1 m2 m3 m4 m5 m6 m7 m8 m9 m10 m11 m12 m13 m14 m15 m16 m17 m18 m19 m20 m21 m22 m23 m24 m25 m26 m27 m28 m29 m30 m31 m32 m33 m34 m35 k (by omega) c112
  by_cases c128 : k < 129
  · exact sg_128 w x0 x1 x2 x3 x4 x5 x6 x7 x8 x9 x10 x11 x12 x13 x14 x15 x16 x17 x18 x19 x20 x21 x22 x23 x24 x25 x26 x27 x28 x29 x30 x31 x32 x33 x34 x35 x36 x37 x38 x39 x40 x41 x42 x43 x44 x45 x46 x47 x48 x49 x50 x51 x52 x53 x54 x55 x56 x57 x58 x59 x60 x61 x62 x63 x64 x65 x66 x67 x68 x69 x70 x71 x72 x73 x74 x75 x76 x77 x78 x79 x80 x81 x82 x83 x84 x85 x86 x87 x88 x89 x90 x91 x92 m0 m1 m2 m3 m4 m5 m6 m7 m8 m9 m10 m11 m12 m13 m14 m15 m16 m17 m18 m19 m20 m21 m22 m23 m24 m25 m26 m27 m28 m29 m30 m31 m32 m33 m34 m35 k (by omega) c128
  omega
theorem bw_n0n : bw_nn bw_M0 = 129 := by decide
theorem sg_P {w : WE} {x0 x1 x2 x3 x4 x5 x6 x7 x8 x9 x10 x11 x12 x13 x14 x15 x16 x17 x18 x19 x20 x21 x22 x23 x24 x25 x26 x27 x28 x29 x30 x31 x32 x33 x34 x35 x36 x37 x38 x39 x40 x41 x42 x43 x44 x45 x46 x47 x48 x49 x50 x51 x52 x53 x54 x55 x56 x57 x58 x59 x60 x61 x62 x63 x64 x65 x66 x67 x68 x69 x70 x71 x72 x73 x74 x75 x76 x77 x78 x79 x80 x81 x82 x83 x84 x85 x86 x87 x88 x89 x90 x91 x92 m0 m1 m2 m3 m4 m5 m6 m7 m8 m9 m10 m11 m12 m13 m14 m15 m16 m17 m18 m19 m20 m21 m22 m23 m24 m25 m26 m27 m28 m29 m30 m31 m32 m33 m34 m35 : Nat} : ∀ H, va_P (bw_d w) vwCl (bw_lx w x0 x1 x2 x3 x4 x5 x6 x7 x8 x9 x10 x11 x12 x13 x14 x15 x16 x17 x18 x19 x20 x21 x22 x23 x24 x25 x26 x27 x28 x29 x30 x31 x32 x33 x34 x35 x36 x37 x38 x39 x40 x41 x42 x43 x44 x45 x46 x47 x48 x49 x50 x51 x52 x53 x54 x55 x56 x57 x58 x59 x60 x61 x62 x63 x64 x65 x66 x67 x68 x69 x70 x71 x72 x73 x74 x75 x76 x77 x78 x79 x80 x81 x82 x83 x84 x85 x86 x87 x88 x89 x90 x91 x92 ++ bw_lm w m0 m1 m2 m3 m4 m5 m6 m7 m8 m9 m10 m11 m12 m13 m14 m15 m16 m17 m18 m19 m20 m21 m22 m23 m24 m25 m26 m27 m28 m29 m30 m31 m32 m33 m34 m35) H → va_P (bw_d w) vwCl (bw_W (bw_wa w (bw_ax x0 x1 x2 x3 x4 x5 x6 x7 x8 x9 x10 x11 x12 x13 x14 x15 x16 x17 x18 x19 x20 x21 x22 x23 x24 x25 x26 x27 x28 x29 x30 x31 x32 x33 x34 x35 x36 x37 x38 x39 x40 x41 x42 x43 x44 x45 x46 x47 x48 x49 x50 x51 x52 x53 x54 x55 x56 x57 x58 x59 x60 x61 x62 x63 x64 x65 x66 x67 x68 x69 x70 x71 x72 x73 x74 x75 x76 x77 x78 x79 x80 x81 x82 x83 x84 x85 x86 x87 x88 x89 x90 x91 x92 m0 m1 m2 m3 m4 m5 m6 m7 m8 m9 m10 m11 m12 m13 m14 m15 m16 m17 m18 m19 m20 m21 m22 m23 m24 m25 m26 m27 m28 m29 m30 m31 m32 m33 m34 m35)) bw_M0) H := by
  intro H hP k q hq
  obtain ⟨hk, -⟩ := bw_of hq
  rw [bw_get hk] at hq
  have hq := Option.some.inj hq
  subst hq
  rw [bw_n0n] at hk
  obtain ⟨e, h1, h2⟩ := sg_all w x0 x1 x2 x3 x4 x5 x6 x7 x8 x9 x10 x11 x12 x13 x14 x15 x16 x17 x18 x19 x20 x21 x22 x23 x24 x25 x26 x27 x28 x29 x30 x31 x32 x33 x34 x35 x36 x37 x38 x39 x40 x41 x42 x43 x44 x45 x46 x47 x48 x49 x50 x51 x52 x53 x54 x55 x56 x57 x58 x59 x60 x61 x62 x63 x64 x65 x66 x67 x68 x69 x70 x71 x72 x73 x74 x75 x76 x77 x78 x79 x80 x81 x82 x83 x84 x85 x86 x87 x88 x89 x90 x91 x92 m0 m1 m2 m3 m4 m5 m6 m7 m8 m9 m10 m11 m12 m13 m14 m15 m16 m17 m18 m19 m20 m21 m22 m23 m24 m25 m26 m27 m28 m29 m30 m31 m32 m33 m34 m35 k hk
  exact h2 _ _ _ _ (hP _ _ h1)
theorem bw_ps_i : ∀ i, i < 129 → ∀ j, j < 129 → bw_ps.getD i 0 = bw_ps.getD j 0 → i = j := by decide +kernel
theorem sg_D {w : WE} {A : Nat → Prop} {x0 x1 x2 x3 x4 x5 x6 x7 x8 x9 x10 x11 x12 x13 x14 x15 x16 x17 x18 x19 x20 x21 x22 x23 x24 x25 x26 x27 x28 x29 x30 x31 x32 x33 x34 x35 x36 x37 x38 x39 x40 x41 x42 x43 x44 x45 x46 x47 x48 x49 x50 x51 x52 x53 x54 x55 x56 x57 x58 x59 x60 x61 x62 x63 x64 x65 x66 x67 x68 x69 x70 x71 x72 x73 x74 x75 x76 x77 x78 x79 x80 x81 x82 x83 x84 x85 x86 x87 x88 x89 x90 x91 x92 m0 m1 m2 m3 m4 m5 m6 m7 m8 m9 m10 m11 m12 m13 m14 m15 m16 m17 m18 m19 m20 m21 m22 m23 m24 m25 m26 m27 m28 m29 m30 m31 m32 m33 m34 m35 : Nat} (hD : va_D A (bw_lx w x0 x1 x2 x3 x4 x5 x6 x7 x8 x9 x10 x11 x12 x13 x14 x15 x16 x17 x18 x19 x20 x21 x22 x23 x24 x25 x26 x27 x28 x29 x30 x31 x32 x33 x34 x35 x36 x37 x38 x39 x40 x41 x42 x43 x44 x45 x46 x47 x48 x49 x50 x51 x52 x53 x54 x55 x56 x57 x58 x59 x60 x61 x62 x63 x64 x65 x66 x67 x68 x69 x70 x71 x72 x73 x74 x75 x76 x77 x78 x79 x80 x81 x82 x83 x84 x85 x86 x87 x88 x89 x90 x91 x92 ++ bw_lm w m0 m1 m2 m3 m4 m5 m6 m7 m8 m9 m10 m11 m12 m13 m14 m15 m16 m17 m18 m19 m20 m21 m22 m23 m24 m25 m26 m27 m28 m29 m30 m31 m32 m33 m34 m35)) : va_D A (bw_W (bw_wa w (bw_ax x0 x1 x2 x3 x4 x5 x6 x7 x8 x9 x10 x11 x12 x13 x14 x15 x16 x17 x18 x19 x20 x21 x22 x23 x24 x25 x26 x27 x28 x29 x30 x31 x32 x33 x34 x35 x36 x37 x38 x39 x40 x41 x42 x43 x44 x45 x46 x47 x48 x49 x50 x51 x52 x53 x54 x55 x56 x57 x58 x59 x60 x61 x62 x63 x64 x65 x66 x67 x68 x69 x70 x71 x72 x73 x74 x75 x76 x77 x78 x79 x80 x81 x82 x83 x84 x85 x86 x87 x88 x89 x90 x91 x92 m0 m1 m2 m3 m4 m5 m6 m7 m8 m9 m10 m11 m12 m13 m14 m15 m16 m17 m18 m19 m20 m21 m22 m23 m24 m25 m26 m27 m28 m29 m30 m31 m32 m33 m34 m35)) bw_M0) := by
  refine ⟨fun i j p q hi hj e => ?_, fun k q hk => ?_⟩
  · obtain ⟨h1, e1⟩ := bw_of hi
    obtain ⟨h2, e2⟩ := bw_of hj
    rw [bw_n0n] at h1 h2
    obtain ⟨y1, g1, -⟩ := sg_all w x0 x1 x2 x3 x4 x5 x6 x7 x8 x9 x10 x11 x12 x13 x14 x15 x16 x17 x18 x19 x20 x21 x22 x23 x24 x25 x26 x27 x28 x29 x30 x31 x32 x33 x34 x35 x36 x37 x38 x39 x40 x41 x42 x43 x44 x45 x46 x47 x48 x49 x50 x51 x52 x53 x54 x55 x56 x57 x58 x59 x60 x61 x62 x63 x64 x65 x66 x67 x68 x69 x70 x71 x72 x73 x74 x75 x76 x77 x78 x79 x80 x81 x82 x83 x84 x85 x86 x87 x88 x89 x90 x91 x92 m0 m1 m2 m3 m4 m5 m6 m7 m8 m9 m10 m11 m12 m13 m14 m15 m16 m17 m18 m19 m20 m21 m22 m23 m24 m25 m26 m27 m28 m29 m30 m31 m32 m33 m34 m35 i h1
    obtain ⟨y2, g2, -⟩ := sg_all w x0 x1 x2 x3 x4 x5 x6 x7 x8 x9 x10 x11 x12 x13 x14 x15 x16 x17 x18 x19 x20 x21 x22 x23 x24 x25 x26 x27 x28 x29 x30 x31 x32 x33 x34 x35 x36 x37 x38 x39 x40 x41 x42 x43 x44 x45 x46 x47 x48 x49 x50 x51 x52 x53 x54 x55 x56 x57 x58 x59 x60 x61 x62 x63 x64 x65 x66 x67 x68 x69 x70 x71 x72 x73 x74 x75 x76 x77 x78 x79 x80 x81 x82 x83 x84 x85 x86 x87 x88 x89 x90 x91 x92 m0 m1 m2 m3 m4 m5 m6 m7 m8 m9 m10 m11 m12 m13 m14 m15 m16 m17 m18 m19 m20 m21 m22 m23 m24 m25 m26 m27 m28 m29 m30 m31 m32 m33 m34 m35 j h2
    refine bw_ps_i i h1 j h2 (hD.1 _ _ _ _ g1 g2 ?_)
    show bw_ad (bw_wa w (bw_ax x0 x1 x2 x3 x4 x5 x6 x7 x8 x9 x10 x11 x12 x13 x14 x15 x16 x17 x18 x19 x20 x21 x22 x23 x24 x25 x26 x27 x28 x29 x30 x31 x32 x33 x34 x35 x36 x37 x38 x39 x40 x41 x42 x43 x44 x45 x46 x47 x48 x49 x50 x51 x52 x53 x54 x55 x56 x57 x58 x59 x60 x61 x62 x63 x64 x65 x66 x67 x68 x69 x70 x71 x72 x73 x74 x75 x76 x77 x78 x79 x80 x81 x82 x83 x84 x85 x86 x87 x88 x89 x90 x91 x92 m0 m1 m2 m3 m4 m5 m6 m7 m8 m9 m10 m11 m12 m13 m14 m15 m16 m17 m18 m19 m20 m21 m22 m23 m24 m25 m26 m27 m28 m29 m30 m31 m32 m33 m34 m35)) i = bw_ad (bw_wa w (bw_ax x0 x1 x2 x3 x4 x5 x6 x7 x8 x9 x10 x11 x12 x13 x14 x15 x16 x17 x18 x19 x20 x21 x22 x23 x24 x25 x26 x27 x28 x29 x30 x31 x32 x33 x34 x35 x36 x37 x38 x39 x40 x41 x42 x43 x44 x45 x46 x47 x48 x49 x50 x51 x52 x53 x54 x55 x56 x57 x58 x59 x60 x61 x62 x63 x64 x65 x66 x67 x68 x69 x70 x71 x72 x73 x74 x75 x76 x77 x78 x79 x80 x81 x82 x83 x84 x85 x86 x87 x88 x89 x90 x91 x92 m0 m1 m2 m3 m4 m5 m6 m7 m8 m9 m10 m11 m12 m13 m14 m15 m16 m17 m18 m19 m20 m21 m22 m23 m24 m25 m26 m27 m28 m29 m30 m31 m32 m33 m34 m35)) j
    rw [← e1, ← e2]
    exact e
  · obtain ⟨h1, e1⟩ := bw_of hk
    rw [bw_n0n] at h1
    obtain ⟨y1, g1, -⟩ := sg_all w x0 x1 x2 x3 x4 x5 x6 x7 x8 x9 x10 x11 x12 x13 x14 x15 x16 x17 x18 x19 x20 x21 x22 x23 x24 x25 x26 x27 x28 x29 x30 x31 x32 x33 x34 x35 x36 x37 x38 x39 x40 x41 x42 x43 x44 x45 x46 x47 x48 x49 x50 x51 x52 x53 x54 x55 x56 x57 x58 x59 x60 x61 x62 x63 x64 x65 x66 x67 x68 x69 x70 x71 x72 x73 x74 x75 x76 x77 x78 x79 x80 x81 x82 x83 x84 x85 x86 x87 x88 x89 x90 x91 x92 m0 m1 m2 m3 m4 m5 m6 m7 m8 m9 m10 m11 m12 m13 m14 m15 m16 m17 m18 m19 m20 m21 m22 m23 m24 m25 m26 m27 m28 m29 m30 m31 m32 m33 m34 m35 k h1
    rw [e1]
    exact hD.2 _ _ g1
set_option maxRecDepth 20000 in
set_option maxHeartbeats 4000000 in
theorem start_open {Inv : Nat → Mem → Prop} (hops : Ops Inv) (hmono : ∀ n M, Inv n M → Inv (n + 1) M) (h0 : Inv 0 bw_M0) {w : WE} {b L : Nat} {xs : Nat → Int32} (hL : L ≤ 3072) : RZ w b L xs 0 0 0 [(0, .ref b)] [] [] := by
  refine rz_new dL_law_0 nw_L_7 (by decide) (by decide) (fun a => ?_)
  refine rz_dup dL_law_3 rfl ?_
  refine rz_callI dL_law_4 ln_L_9 mi_X9_init cx_X9_init (by decide) (by decide) (by decide) (Nat.le_of_ble_eq_true rfl) (fun ws1 hx => ?_)
  obtain ⟨x1, x2, x3, x4, x5, x6, x7, x8, x9, x10, x11, x12, x13, x14, x15, x16, x17, x18, x19, x20, x21, x22, x23, x24, x25, x26, x27, x28, x29, x30, x31, x32, x33, x34, x35, x36, x37, x38, x39, x40, x41, x42, x43, x44, x45, x46, x47, x48, x49, x50, x51, x52, x53, x54, x55, x56, x57, x58, x59, x60, x61, x62, x63, x64, x65, x66, x67, x68, x69, x70, x71, x72, x73, x74, x75, x76, x77, x78, x79, x80, x81, x82, x83, x84, x85, x86, x87, x88, x89, x90, x91, x92, rfl⟩ := hx
  refine rz_l (l' := bw_lx w a x1 x2 x3 x4 x5 x6 x7 x8 x9 x10 x11 x12 x13 x14 x15 x16 x17 x18 x19 x20 x21 x22 x23 x24 x25 x26 x27 x28 x29 x30 x31 x32 x33 x34 x35 x36 x37 x38 x39 x40 x41 x42 x43 x44 x45 x46 x47 x48 x49 x50 x51 x52 x53 x54 x55 x56 x57 x58 x59 x60 x61 x62 x63 x64 x65 x66 x67 x68 x69 x70 x71 x72 x73 x74 x75 x76 x77 x78 x79 x80 x81 x82 x83 x84 x85 x86 x87 x88 x89 x90 x91 x92) rfl ?_
  refine rz_astore dL_law_7 rfl (by decide) ?_
  refine rz_new dL_law_8 nw_L_10 (by decide) (by decide) (fun a2 => ?_)
  refine rz_dup dL_law_11 rfl ?_
  refine rz_callI dL_law_12 ln_L_12 mi_X10_init cx_X10_init (by decide) (by decide) (by decide) (Nat.le_of_ble_eq_true rfl) (fun ws1 hx => ?_)
  obtain ⟨m1, m2, m3, m4, m5, m6, m7, m8, m9, m10, m11, m12, m13, m14, m15, m16, m17, m18, m19, m20, m21, m22, m23, m24, m25, m26, m27, m28, m29, m30, m31, m32, m33, m34, m35, rfl⟩ := hx
  refine rz_l (l' := bw_lx w a x1 x2 x3 x4 x5 x6 x7 x8 x9 x10 x11 x12 x13 x14 x15 x16 x17 x18 x19 x20 x21 x22 x23 x24 x25 x26 x27 x28 x29 x30 x31 x32 x33 x34 x35 x36 x37 x38 x39 x40 x41 x42 x43 x44 x45 x46 x47 x48 x49 x50 x51 x52 x53 x54 x55 x56 x57 x58 x59 x60 x61 x62 x63 x64 x65 x66 x67 x68 x69 x70 x71 x72 x73 x74 x75 x76 x77 x78 x79 x80 x81 x82 x83 x84 x85 x86 x87 x88 x89 x90 x91 x92 ++ bw_lm w a2 m1 m2 m3 m4 m5 m6 m7 m8 m9 m10 m11 m12 m13 m14 m15 m16 m17 m18 m19 m20 m21 m22 m23 m24 m25 m26 m27 m28 m29 m30 m31 m32 m33 m34 m35) rfl ?_
  refine rz_astore dL_law_15 rfl (by decide) ?_
  refine rz_iconst (v := 0) dL_law_16 (by decide) ?_
  refine rz_istore dL_law_17 rfl (by decide) ?_
  refine rz_fin (f := bw_ax a x1 x2 x3 x4 x5 x6 x7 x8 x9 x10 x11 x12 x13 x14 x15 x16 x17 x18 x19 x20 x21 x22 x23 x24 x25 x26 x27 x28 x29 x30 x31 x32 x33 x34 x35 x36 x37 x38 x39 x40 x41 x42 x43 x44 x45 x46 x47 x48 x49 x50 x51 x52 x53 x54 x55 x56 x57 x58 x59 x60 x61 x62 x63 x64 x65 x66 x67 x68 x69 x70 x71 x72 x73 x74 x75 x76 x77 x78 x79 x80 x81 x82 x83 x84 x85 x86 x87 x88 x89 x90 x91 x92 a2 m1 m2 m3 m4 m5 m6 m7 m8 m9 m10 m11 m12 m13 m14 m15 m16 m17 m18 m19 m20 m21 m22 m23 m24 m25 m26 m27 m28 m29 m30 m31 m32 m33 m34 m35) (M := bw_M0) sg_P sg_D ?_
  exact rl_sub (rw_lc rfl (rw_lc rfl (rw_lc rfl (rw_lc rfl rw_lz)))) (law_loop hops hmono 513 0 _ bw_M0 _ _ (by decide) (by decide) hL (by decide) (by decide) h0)
set_option maxHeartbeats 1000000 in
/-- THE LAW, from its entry, over the ops -/
theorem whole_open {Inv : Nat → Mem → Prop} (hops : Ops Inv) (hmono : ∀ n M, Inv n M → Inv (n + 1) M) (h0 : Inv 0 bw_M0) {p : Program} {e : Env} {s : State} {m : MethodId} {below : List Frame} {meth : Method} {c : Code} (l : Launch) {b L : Nat} {xs : Nat → Int32} (hL : L ≤ 3072) (C0 : lw_At p s m meth c b L xs) : W p l e room_1 s m #[Value.ref b] below meth c s.heap [] 0 0 (lw_Z below #[Value.ref b] s) (entryFrame m ([Value.ref b] : List Value).toArray 4) := by
  obtain ⟨hx, hb, hr, hml, hown, hts, hX, hbl, hlocks, hgv⟩ := id C0
  obtain ⟨oa, hO⟩ := ws_old hts hgv
  obtain ⟨D, ca, hK⟩ := ws_cls hts
  have hl := lv_entry ([.ref b]) (n := 4) (Nat.le_of_ble_eq_true rfl)
  rw [lg_entry_eq]
  refine start_open hops hmono h0 (w := (D, ca, fun _ => 0, s.heap.size, oa)) hL p l e s m below meth c s.heap [] _ C0 (hK _ _ _) rfl (hO _ _ _) hL (by decide) (by decide) (fun k q h => by simp at h) ⟨fun i j p q h => by simp at h, fun k q h => by simp at h⟩ va_S.rf ⟨hl.1, hl.2.1, fun i v hi => ?_⟩
  have hm := bw_lk_mem hi
  rw [List.mem_singleton] at hm
  cases hm
  exact ⟨rfl, hl.2.2 (0, .ref b) List.mem_cons_self⟩
