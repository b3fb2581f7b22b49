/-! the world: cells by number, their contents a function of the memory -/
abbrev Mem : Type := Nat → Nat → Int32
abbrev WE : Type := va_G × (Nat → ClassId) × (Nat → Nat) × Nat × (Nat → Nat)
def bw_d (w : WE) : va_G := w.1
def bw_ca (w : WE) : Nat → ClassId := w.2.1
def bw_ad (w : WE) : Nat → Nat := w.2.2.1
def bw_bz (w : WE) : Nat := w.2.2.2.1
def bw_oa (w : WE) : Nat → Nat := w.2.2.2.2
/-- the cell of the law with a code; the number of cells (row 0, place 1000 counts the laws; place 1000 of a law's row its length) -/
def bw_lc (v : Int32) : Nat := 129 + 3 * (v.toNatClampNeg - 1)
def bw_nn (M : Mem) : Nat := 129 + 3 * (M 0 1000).toNatClampNeg
def bw_lr (w : WE) (v : Int32) : Option Nat := if v = 0 then none else some (bw_ad w (bw_lc v))
def bw_T (w : WE) : List (ClassId × FieldType) := [(bw_ca w 0, .int), (bw_ca w 1, .boolean), (bw_ca w 2, .char), (bw_ca w 3, .object RX0), (bw_ca w 4, .object RX1), (bw_ca w 5, .object RX4), (bw_ca w 6, .object RX5)]
def bw_st : List (WE → (Nat → Int32) → va_E) := [
  fun w r => .inr (9, [.ref (bw_ad w 25), .ref (bw_ad w 45), .int (r 2), .ref (bw_ad w 1), .ref (bw_ad w 11), .ref (bw_ad w 14), .ref (bw_ad w 16), .ref (bw_ad w 18), .ref (bw_ad w 19), .ref (bw_ad w 20), .int (r 10), .ref (bw_ad w 21), .ref (bw_ad w 22), .ref (bw_ad w 23), .ref (bw_ad w 24)]),
  fun w r => .inr (2, [.int (r 0), .ref (bw_ad w 2), .ref (bw_ad w 3), .ref (bw_ad w 4), .int (r 4), .int (r 5), .int (r 6), va_rf (bw_lr w (r 7)), .ref (bw_ad w 5), .int (r 9), .ref (bw_ad w 6), .ref (bw_ad w 7), .ref (bw_ad w 8), .ref (bw_ad w 9), .int (r 14), .ref (bw_ad w 10)]),
  fun w r => .inl (bw_ca w 0, 25, .inl r),
  fun w r => .inl (bw_ca w 0, 25, .inl r),
  fun w r => .inl (bw_ca w 1, 25, .inl r),
  fun w r => .inl (bw_ca w 0, 6, .inl r),
  fun w r => .inl (bw_ca w 0, 2500, .inl r),
  fun w r => .inl (bw_ca w 0, 25, .inl r),
  fun w r => .inl (bw_ca w 0, 25, .inl r),
  fun w r => .inl (bw_ca w 0, 25, .inl r),
  fun w r => .inl (bw_ca w 0, 25, .inl r),
  fun w r => .inr (8, [.int (r 0), .ref (bw_ad w 12), .ref (bw_ad w 13), va_rf (bw_lr w (r 3))]),
  fun w r => .inl (bw_ca w 0, 24, .inl r),
  fun w r => .inl (bw_ca w 0, 8, .inl r),
  fun w r => .inr (3, [.ref (bw_ad w 16), .ref (bw_ad w 15), .int (r 2), .int (r 3), .int (r 4)]),
  fun w r => .inl (bw_ca w 0, 96, .inl r),
  fun w r => .inr (7, [.ref (bw_ad w 17), .int (r 1), .int (r 2), .int (r 3), .int (r 4)]),
  fun w r => .inl (bw_ca w 0, 96, .inl r),
  fun w r => .inl (bw_ca w 5, 4, .inr (.inr (.inr (.inr (fun i => some (bw_ad w (65 + 2 * i))))))),
  fun w r => .inl (bw_ca w 6, 5, .inr (.inr (.inr (.inr (fun i => some (bw_ad w (73 + 4 * i))))))),
  fun w r => .inl (bw_ca w 0, 60, .inl r),
  fun w r => .inl (bw_ca w 0, 24, .inl r),
  fun w r => .inl (bw_ca w 0, 3, .inl r),
  fun w r => .inl (bw_ca w 0, 3, .inl r),
  fun w r => .inl (bw_ca w 0, 24, .inl r),
  fun w r => .inr (6, [.int (r 0), .ref (bw_ad w 26), .ref (bw_ad w 27), .ref (bw_ad w 28), .ref (bw_ad w 29), .int (r 5), .int (r 6), .int (r 7), .int (r 8), .int (r 9), .ref (bw_ad w 30), .int (r 11), .ref (bw_ad w 31), .int (r 13), .ref (bw_ad w 32)]),
  fun w r => .inl (bw_ca w 0, 24, .inl r),
  fun w r => .inl (bw_ca w 0, 24, .inl r),
  fun w r => .inl (bw_ca w 0, 24, .inl r),
  fun w r => .inl (bw_ca w 1, 24, .inl r),
  fun w r => .inl (bw_ca w 3, 12, .inr (.inr (.inr (.inr (fun i => some (bw_ad w (33 + i))))))),
  fun w r => .inl (bw_ca w 0, 6, .inl r),
  fun w r => .inl (bw_ca w 4, 14, .inr (.inr (.inr (.inr (fun i => bw_lr w (r i)))))),
  fun w r => .inr (0, [.int (r 0), .int (r 1), .int (r 2), .int (r 3)]),
  fun w r => .inr (0, [.int (r 0), .int (r 1), .int (r 2), .int (r 3)]),
  fun w r => .inr (0, [.int (r 0), .int (r 1), .int (r 2), .int (r 3)]),
  fun w r => .inr (0, [.int (r 0), .int (r 1), .int (r 2), .int (r 3)]),
  fun w r => .inr (0, [.int (r 0), .int (r 1), .int (r 2), .int (r 3)]),
  fun w r => .inr (0, [.int (r 0), .int (r 1), .int (r 2), .int (r 3)]),
  fun w r => .inr (0, [.int (r 0), .int (r 1), .int (r 2), .int (r 3)]),
  fun w r => .inr (0, [.int (r 0), .int (r 1), .int (r 2), .int (r 3)]),
  fun w r => .inr (0, [.int (r 0), .int (r 1), .int (r 2), .int (r 3)]),
  fun w r => .inr (0, [.int (r 0), .int (r 1), .int (r 2), .int (r 3)]),
  fun w r => .inr (0, [.int (r 0), .int (r 1), .int (r 2), .int (r 3)]),
  fun w r => .inr (0, [.int (r 0), .int (r 1), .int (r 2), .int (r 3)]),
  fun w r => .inr (6, [.int (r 0), .ref (bw_ad w 46), .ref (bw_ad w 47), .ref (bw_ad w 48), .ref (bw_ad w 49), .int (r 5), .int (r 6), .int (r 7), .int (r 8), .int (r 9), .ref (bw_ad w 50), .int (r 11), .ref (bw_ad w 51), .int (r 13), .ref (bw_ad w 52)]),
  fun w r => .inl (bw_ca w 0, 24, .inl r),
  fun w r => .inl (bw_ca w 0, 24, .inl r),
  fun w r => .inl (bw_ca w 0, 24, .inl r),
  fun w r => .inl (bw_ca w 1, 24, .inl r),
  fun w r => .inl (bw_ca w 3, 12, .inr (.inr (.inr (.inr (fun i => some (bw_ad w (53 + i))))))),
  fun w r => .inl (bw_ca w 0, 6, .inl r),
  fun w r => .inl (bw_ca w 4, 14, .inr (.inr (.inr (.inr (fun i => bw_lr w (r i)))))),
  fun w r => .inr (0, [.int (r 0), .int (r 1), .int (r 2), .int (r 3)]),
  fun w r => .inr (0, [.int (r 0), .int (r 1), .int (r 2), .int (r 3)]),
  fun w r => .inr (0, [.int (r 0), .int (r 1), .int (r 2), .int (r 3)]),
  fun w r => .inr (0, [.int (r 0), .int (r 1), .int (r 2), .int (r 3)]),
  fun w r => .inr (0, [.int (r 0), .int (r 1), .int (r 2), .int (r 3)]),
  fun w r => .inr (0, [.int (r 0), .int (r 1), .int (r 2), .int (r 3)]),
  fun w r => .inr (0, [.int (r 0), .int (r 1), .int (r 2), .int (r 3)]),
  fun w r => .inr (0, [.int (r 0), .int (r 1), .int (r 2), .int (r 3)]),
  fun w r => .inr (0, [.int (r 0), .int (r 1), .int (r 2), .int (r 3)]),
  fun w r => .inr (0, [.int (r 0), .int (r 1), .int (r 2), .int (r 3)]),
  fun w r => .inr (0, [.int (r 0), .int (r 1), .int (r 2), .int (r 3)]),
  fun w r => .inr (0, [.int (r 0), .int (r 1), .int (r 2), .int (r 3)]),
  fun w r => .inr (4, [.int (r 0), .int (r 1), .ref (bw_ad w 66)]),
  fun w r => .inl (bw_ca w 0, 24, .inl r),
  fun w r => .inr (4, [.int (r 0), .int (r 1), .ref (bw_ad w 68)]),
  fun w r => .inl (bw_ca w 0, 24, .inl r),
  fun w r => .inr (4, [.int (r 0), .int (r 1), .ref (bw_ad w 70)]),
  fun w r => .inl (bw_ca w 0, 24, .inl r),
  fun w r => .inr (4, [.int (r 0), .int (r 1), .ref (bw_ad w 72)]),
  fun w r => .inl (bw_ca w 0, 24, .inl r),
  fun w r => .inr (5, [.int (r 0), .ref (bw_ad w 74), .ref (bw_ad w 75), .int (r 3)]),
  fun w r => .inr (0, [.int (r 0), .int (r 1), .int (r 2), .int (r 3)]),
  fun w r => .inr (4, [.int (r 0), .int (r 1), .ref (bw_ad w 76)]),
  fun w r => .inl (bw_ca w 0, 24, .inl r),
  fun w r => .inr (5, [.int (r 0), .ref (bw_ad w 78), .ref (bw_ad w 79), .int (r 3)]),
  fun w r => .inr (0, [.int (r 0), .int (r 1), .int (r 2), .int (r 3)]),
  fun w r => .inr (4, [.int (r 0), .int (r 1), .ref (bw_ad w 80)]),
  fun w r => .inl (bw_ca w 0, 24, .inl r),
  fun w r => .inr (5, [.int (r 0), .ref (bw_ad w 82), .ref (bw_ad w 83), .int (r 3)]),
  fun w r => .inr (0, [.int (r 0), .int (r 1), .int (r 2), .int (r 3)]),
  fun w r => .inr (4, [.int (r 0), .int (r 1), .ref (bw_ad w 84)]),
  fun w r => .inl (bw_ca w 0, 24, .inl r),
  fun w r => .inr (5, [.int (r 0), .ref (bw_ad w 86), .ref (bw_ad w 87), .int (r 3)]),
  fun w r => .inr (0, [.int (r 0), .int (r 1), .int (r 2), .int (r 3)]),
  fun w r => .inr (4, [.int (r 0), .int (r 1), .ref (bw_ad w 88)]),
  fun w r => .inl (bw_ca w 0, 24, .inl r),
  fun w r => .inr (5, [.int (r 0), .ref (bw_ad w 90), .ref (bw_ad w 91), .int (r 3)]),
  fun w r => .inr (0, [.int (r 0), .int (r 1), .int (r 2), .int (r 3)]),
  fun w r => .inr (4, [.int (r 0), .int (r 1), .ref (bw_ad w 92)]),
  fun w r => .inl (bw_ca w 0, 24, .inl r),
  fun w r => .inr (10, [.ref (bw_ad w 94), .ref (bw_ad w 95), .ref (bw_ad w 96), .int (r 3), .ref (bw_ad w 97), .ref (bw_ad w 98), .ref (bw_ad w 99), .int (r 7), .int (r 8), .ref (bw_ad w 100), .int (r 10), .ref (bw_ad w 101), .ref (bw_ad w 102), .int (r 13), .ref (bw_ad w 103), .ref (bw_ad w 104), .int (r 16), .int (r 17), .ref (bw_ad w 105), .ref (bw_ad w 106), .ref (bw_ad w 107), .ref (bw_ad w 108), .int (r 22), .ref (bw_ad w 109), .int (r 24), .ref (bw_ad w 110), .int (r 26), .int (r 27), .int (r 28), .int (r 29), .int (r 30), .int (r 31), .int (r 32), .ref (bw_ad w 111), .ref (bw_ad w 112), .ref (bw_ad w 113), .int (r 36), .int (r 37), .ref (bw_ad w 114), .int (r 39), .ref (bw_ad w 115), .ref (bw_ad w 116), .ref (bw_ad w 117), .ref (bw_ad w 118), .ref (bw_ad w 119), .ref (bw_ad w 120), .ref (bw_ad w 121), .ref (bw_ad w 122), .ref (bw_ad w 123), .ref (bw_ad w 124), .ref (bw_ad w 125), .ref (bw_ad w 126), .ref (bw_ad w 127), .ref (bw_ad w 128), .int (r 54)]),
  fun w r => .inl (bw_ca w 0, 1530, .inl r),
  fun w r => .inl (bw_ca w 0, 1530, .inl r),
  fun w r => .inl (bw_ca w 0, 1530, .inl r),
  fun w r => .inl (bw_ca w 0, 25, .inl r),
  fun w r => .inl (bw_ca w 0, 25, .inl r),
  fun w r => .inl (bw_ca w 1, 25, .inl r),
  fun w r => .inl (bw_ca w 0, 6, .inl r),
  fun w r => .inl (bw_ca w 0, 2500, .inl r),
  fun w r => .inl (bw_ca w 0, 2500, .inl r),
  fun w r => .inl (bw_ca w 0, 26, .inl r),
  fun w r => .inl (bw_ca w 0, 26, .inl r),
  fun w r => .inl (bw_ca w 0, 26, .inl r),
  fun w r => .inl (bw_ca w 0, 25, .inl r),
  fun w r => .inl (bw_ca w 0, 26, .inl r),
  fun w r => .inl (bw_ca w 0, 24, .inl r),
  fun w r => .inl (bw_ca w 0, 3, .inl r),
  fun w r => .inl (bw_ca w 0, 96, .inl r),
  fun w r => .inl (bw_ca w 2, 12, .inl r),
  fun w r => .inl (bw_ca w 0, 4, .inl r),
  fun w r => .inl (bw_ca w 0, 96, .inl r),
  fun w r => .inl (bw_ca w 0, 96, .inl r),
  fun w r => .inl (bw_ca w 1, 10, .inl r),
  fun w r => .inl (bw_ca w 0, 96, .inl r),
  fun w r => .inl (bw_ca w 0, 4, .inl r),
  fun w r => .inl (bw_ca w 0, 25, .inl r),
  fun w r => .inl (bw_ca w 0, 25, .inl r),
  fun w r => .inl (bw_ca w 0, 4, .inl r),
  fun w r => .inl (bw_ca w 0, 4, .inl r),
  fun w r => .inl (bw_ca w 0, 96, .inl r),
  fun w r => .inl (bw_ca w 0, 5, .inl r),
  fun w r => .inl (bw_ca w 0, 5, .inl r),
  fun w r => .inl (bw_ca w 0, 5, .inl r),
  fun w r => .inl (bw_ca w 0, 120, .inl r),
  fun w r => .inl (bw_ca w 0, 24, .inl r),
  fun w r => .inl (bw_ca w 0, 60, .inl r)]
def bw_lw (w : WE) (k : Nat) (r : Nat → Int32) : va_E := if (k - 129) % 3 = 0 then .inr (1, [.int (r 0), .int (r 1), .ref (bw_ad w (k + 1)), .ref (bw_ad w (k + 2))]) else .inl (bw_ca w 0, (r 1000).toNatClampNeg, .inl r)
def bw_E (w : WE) (k : Nat) (r : Nat → Int32) : va_E := match bw_st[k]? with
  | some f => f w r
  | none => bw_lw w k r
def bw_W (w : WE) (M : Mem) : va_W := (List.range (bw_nn M)).map (fun k => (bw_ad w k, bw_E w k (M k)))
def bw_A (w : WE) : Nat → Prop := fun q => bw_bz w ≤ q
theorem sh_x (w : WE) (r : Nat → Int32) : bw_E w 0 r = .inr (9, [.ref (bw_ad w 25), .ref (bw_ad w 45), .int (r 2), .ref (bw_ad w 1), .ref (bw_ad w 11), .ref (bw_ad w 14), .ref (bw_ad w 16), .ref (bw_ad w 18), .ref (bw_ad w 19), .ref (bw_ad w 20), .int (r 10), .ref (bw_ad w 21), .ref (bw_ad w 22), .ref (bw_ad w 23), .ref (bw_ad w 24)]) := rfl
theorem sh_plan (w : WE) (r : Nat → Int32) : bw_E w 1 r = .inr (2, [.int (r 0), .ref (bw_ad w 2), .ref (bw_ad w 3), .ref (bw_ad w 4), .int (r 4), .int (r 5), .int (r 6), va_rf (bw_lr w (r 7)), .ref (bw_ad w 5), .int (r 9), .ref (bw_ad w 6), .ref (bw_ad w 7), .ref (bw_ad w 8), .ref (bw_ad w 9), .int (r 14), .ref (bw_ad w 10)]) := rfl
theorem sh_p_high (w : WE) (r : Nat → Int32) : bw_E w 2 r = .inl (bw_ca w 0, 25, .inl r) := rfl
theorem sh_p_thick (w : WE) (r : Nat → Int32) : bw_E w 3 r = .inl (bw_ca w 0, 25, .inl r) := rfl
theorem sh_p_tied (w : WE) (r : Nat → Int32) : bw_E w 4 r = .inl (bw_ca w 1, 25, .inl r) := rfl
theorem sh_p_heights (w : WE) (r : Nat → Int32) : bw_E w 5 r = .inl (bw_ca w 0, 6, .inl r) := rfl
theorem sh_p_price (w : WE) (r : Nat → Int32) : bw_E w 6 r = .inl (bw_ca w 0, 2500, .inl r) := rfl
theorem sh_p_least (w : WE) (r : Nat → Int32) : bw_E w 7 r = .inl (bw_ca w 0, 25, .inl r) := rfl
theorem sh_p_next (w : WE) (r : Nat → Int32) : bw_E w 8 r = .inl (bw_ca w 0, 25, .inl r) := rfl
theorem sh_p_first (w : WE) (r : Nat → Int32) : bw_E w 9 r = .inl (bw_ca w 0, 25, .inl r) := rfl
theorem sh_p_filled (w : WE) (r : Nat → Int32) : bw_E w 10 r = .inl (bw_ca w 0, 25, .inl r) := rfl
theorem sh_years (w : WE) (r : Nat → Int32) : bw_E w 11 r = .inr (8, [.int (r 0), .ref (bw_ad w 12), .ref (bw_ad w 13), va_rf (bw_lr w (r 3))]) := rfl
theorem sh_y_thick (w : WE) (r : Nat → Int32) : bw_E w 12 r = .inl (bw_ca w 0, 24, .inl r) := rfl
theorem sh_y_growsAt (w : WE) (r : Nat → Int32) : bw_E w 13 r = .inl (bw_ca w 0, 8, .inl r) := rfl
theorem sh_reader (w : WE) (r : Nat → Int32) : bw_E w 14 r = .inr (3, [.ref (bw_ad w 16), .ref (bw_ad w 15), .int (r 2), .int (r 3), .int (r 4)]) := rfl
theorem sh_r_steps (w : WE) (r : Nat → Int32) : bw_E w 15 r = .inl (bw_ca w 0, 96, .inl r) := rfl
theorem sh_tape (w : WE) (r : Nat → Int32) : bw_E w 16 r = .inr (7, [.ref (bw_ad w 17), .int (r 1), .int (r 2), .int (r 3), .int (r 4)]) := rfl
theorem sh_t_bytes (w : WE) (r : Nat → Int32) : bw_E w 17 r = .inl (bw_ca w 0, 96, .inl r) := rfl
theorem sh_sheets (w : WE) (r : Nat → Int32) : bw_E w 18 r = .inl (bw_ca w 5, 4, .inr (.inr (.inr (.inr (fun i => some (bw_ad w (65 + 2 * i))))))) := rfl
theorem sh_slots (w : WE) (r : Nat → Int32) : bw_E w 19 r = .inl (bw_ca w 6, 5, .inr (.inr (.inr (.inr (fun i => some (bw_ad w (73 + 4 * i))))))) := rfl
theorem sh_waiting (w : WE) (r : Nat → Int32) : bw_E w 20 r = .inl (bw_ca w 0, 60, .inl r) := rfl
theorem sh_unlike (w : WE) (r : Nat → Int32) : bw_E w 21 r = .inl (bw_ca w 0, 24, .inl r) := rfl
theorem sh_pick (w : WE) (r : Nat → Int32) : bw_E w 22 r = .inl (bw_ca w 0, 3, .inl r) := rfl
theorem sh_chosen (w : WE) (r : Nat → Int32) : bw_E w 23 r = .inl (bw_ca w 0, 3, .inl r) := rfl
theorem sh_lineBefore (w : WE) (r : Nat → Int32) : bw_E w 24 r = .inl (bw_ca w 0, 24, .inl r) := rfl
theorem sh_now (w : WE) (r : Nat → Int32) : bw_E w 25 r = .inr (6, [.int (r 0), .ref (bw_ad w 26), .ref (bw_ad w 27), .ref (bw_ad w 28), .ref (bw_ad w 29), .int (r 5), .int (r 6), .int (r 7), .int (r 8), .int (r 9), .ref (bw_ad w 30), .int (r 11), .ref (bw_ad w 31), .int (r 13), .ref (bw_ad w 32)]) := rfl
theorem sh_now_height (w : WE) (r : Nat → Int32) : bw_E w 26 r = .inl (bw_ca w 0, 24, .inl r) := rfl
theorem sh_now_thick (w : WE) (r : Nat → Int32) : bw_E w 27 r = .inl (bw_ca w 0, 24, .inl r) := rfl
theorem sh_now_part (w : WE) (r : Nat → Int32) : bw_E w 28 r = .inl (bw_ca w 0, 24, .inl r) := rfl
theorem sh_now_tied (w : WE) (r : Nat → Int32) : bw_E w 29 r = .inl (bw_ca w 1, 24, .inl r) := rfl
theorem sh_now_boards (w : WE) (r : Nat → Int32) : bw_E w 30 r = .inl (bw_ca w 3, 12, .inr (.inr (.inr (.inr (fun i => some (bw_ad w (33 + i))))))) := rfl
theorem sh_now_allowed (w : WE) (r : Nat → Int32) : bw_E w 31 r = .inl (bw_ca w 0, 6, .inl r) := rfl
theorem sh_now_texts (w : WE) (r : Nat → Int32) : bw_E w 32 r = .inl (bw_ca w 4, 14, .inr (.inr (.inr (.inr (fun i => bw_lr w (r i)))))) := rfl
theorem sh_now_b0 (w : WE) (r : Nat → Int32) : bw_E w 33 r = .inr (0, [.int (r 0), .int (r 1), .int (r 2), .int (r 3)]) := rfl
theorem sh_now_b1 (w : WE) (r : Nat → Int32) : bw_E w 34 r = .inr (0, [.int (r 0), .int (r 1), .int (r 2), .int (r 3)]) := rfl
theorem sh_now_b2 (w : WE) (r : Nat → Int32) : bw_E w 35 r = .inr (0, [.int (r 0), .int (r 1), .int (r 2), .int (r 3)]) := rfl
theorem sh_now_b3 (w : WE) (r : Nat → Int32) : bw_E w 36 r = .inr (0, [.int (r 0), .int (r 1), .int (r 2), .int (r 3)]) := rfl
theorem sh_now_b4 (w : WE) (r : Nat → Int32) : bw_E w 37 r = .inr (0, [.int (r 0), .int (r 1), .int (r 2), .int (r 3)]) := rfl
theorem sh_now_b5 (w : WE) (r : Nat → Int32) : bw_E w 38 r = .inr (0, [.int (r 0), .int (r 1), .int (r 2), .int (r 3)]) := rfl
theorem sh_now_b6 (w : WE) (r : Nat → Int32) : bw_E w 39 r = .inr (0, [.int (r 0), .int (r 1), .int (r 2), .int (r 3)]) := rfl
theorem sh_now_b7 (w : WE) (r : Nat → Int32) : bw_E w 40 r = .inr (0, [.int (r 0), .int (r 1), .int (r 2), .int (r 3)]) := rfl
theorem sh_now_b8 (w : WE) (r : Nat → Int32) : bw_E w 41 r = .inr (0, [.int (r 0), .int (r 1), .int (r 2), .int (r 3)]) := rfl
theorem sh_now_b9 (w : WE) (r : Nat → Int32) : bw_E w 42 r = .inr (0, [.int (r 0), .int (r 1), .int (r 2), .int (r 3)]) := rfl
theorem sh_now_b10 (w : WE) (r : Nat → Int32) : bw_E w 43 r = .inr (0, [.int (r 0), .int (r 1), .int (r 2), .int (r 3)]) := rfl
theorem sh_now_b11 (w : WE) (r : Nat → Int32) : bw_E w 44 r = .inr (0, [.int (r 0), .int (r 1), .int (r 2), .int (r 3)]) := rfl
theorem sh_image (w : WE) (r : Nat → Int32) : bw_E w 45 r = .inr (6, [.int (r 0), .ref (bw_ad w 46), .ref (bw_ad w 47), .ref (bw_ad w 48), .ref (bw_ad w 49), .int (r 5), .int (r 6), .int (r 7), .int (r 8), .int (r 9), .ref (bw_ad w 50), .int (r 11), .ref (bw_ad w 51), .int (r 13), .ref (bw_ad w 52)]) := rfl
theorem sh_image_height (w : WE) (r : Nat → Int32) : bw_E w 46 r = .inl (bw_ca w 0, 24, .inl r) := rfl
theorem sh_image_thick (w : WE) (r : Nat → Int32) : bw_E w 47 r = .inl (bw_ca w 0, 24, .inl r) := rfl
theorem sh_image_part (w : WE) (r : Nat → Int32) : bw_E w 48 r = .inl (bw_ca w 0, 24, .inl r) := rfl
theorem sh_image_tied (w : WE) (r : Nat → Int32) : bw_E w 49 r = .inl (bw_ca w 1, 24, .inl r) := rfl
theorem sh_image_boards (w : WE) (r : Nat → Int32) : bw_E w 50 r = .inl (bw_ca w 3, 12, .inr (.inr (.inr (.inr (fun i => some (bw_ad w (53 + i))))))) := rfl
theorem sh_image_allowed (w : WE) (r : Nat → Int32) : bw_E w 51 r = .inl (bw_ca w 0, 6, .inl r) := rfl
theorem sh_image_texts (w : WE) (r : Nat → Int32) : bw_E w 52 r = .inl (bw_ca w 4, 14, .inr (.inr (.inr (.inr (fun i => bw_lr w (r i)))))) := rfl
theorem sh_image_b0 (w : WE) (r : Nat → Int32) : bw_E w 53 r = .inr (0, [.int (r 0), .int (r 1), .int (r 2), .int (r 3)]) := rfl
theorem sh_image_b1 (w : WE) (r : Nat → Int32) : bw_E w 54 r = .inr (0, [.int (r 0), .int (r 1), .int (r 2), .int (r 3)]) := rfl
theorem sh_image_b2 (w : WE) (r : Nat → Int32) : bw_E w 55 r = .inr (0, [.int (r 0), .int (r 1), .int (r 2), .int (r 3)]) := rfl
theorem sh_image_b3 (w : WE) (r : Nat → Int32) : bw_E w 56 r = .inr (0, [.int (r 0), .int (r 1), .int (r 2), .int (r 3)]) := rfl
theorem sh_image_b4 (w : WE) (r : Nat → Int32) : bw_E w 57 r = .inr (0, [.int (r 0), .int (r 1), .int (r 2), .int (r 3)]) := rfl
theorem sh_image_b5 (w : WE) (r : Nat → Int32) : bw_E w 58 r = .inr (0, [.int (r 0), .int (r 1), .int (r 2), .int (r 3)]) := rfl
theorem sh_image_b6 (w : WE) (r : Nat → Int32) : bw_E w 59 r = .inr (0, [.int (r 0), .int (r 1), .int (r 2), .int (r 3)]) := rfl
theorem sh_image_b7 (w : WE) (r : Nat → Int32) : bw_E w 60 r = .inr (0, [.int (r 0), .int (r 1), .int (r 2), .int (r 3)]) := rfl
theorem sh_image_b8 (w : WE) (r : Nat → Int32) : bw_E w 61 r = .inr (0, [.int (r 0), .int (r 1), .int (r 2), .int (r 3)]) := rfl
theorem sh_image_b9 (w : WE) (r : Nat → Int32) : bw_E w 62 r = .inr (0, [.int (r 0), .int (r 1), .int (r 2), .int (r 3)]) := rfl
theorem sh_image_b10 (w : WE) (r : Nat → Int32) : bw_E w 63 r = .inr (0, [.int (r 0), .int (r 1), .int (r 2), .int (r 3)]) := rfl
theorem sh_image_b11 (w : WE) (r : Nat → Int32) : bw_E w 64 r = .inr (0, [.int (r 0), .int (r 1), .int (r 2), .int (r 3)]) := rfl
theorem sh_sheet0 (w : WE) (r : Nat → Int32) : bw_E w 65 r = .inr (4, [.int (r 0), .int (r 1), .ref (bw_ad w 66)]) := rfl
theorem sh_sheet0_row (w : WE) (r : Nat → Int32) : bw_E w 66 r = .inl (bw_ca w 0, 24, .inl r) := rfl
theorem sh_sheet1 (w : WE) (r : Nat → Int32) : bw_E w 67 r = .inr (4, [.int (r 0), .int (r 1), .ref (bw_ad w 68)]) := rfl
theorem sh_sheet1_row (w : WE) (r : Nat → Int32) : bw_E w 68 r = .inl (bw_ca w 0, 24, .inl r) := rfl
theorem sh_sheet2 (w : WE) (r : Nat → Int32) : bw_E w 69 r = .inr (4, [.int (r 0), .int (r 1), .ref (bw_ad w 70)]) := rfl
theorem sh_sheet2_row (w : WE) (r : Nat → Int32) : bw_E w 70 r = .inl (bw_ca w 0, 24, .inl r) := rfl
theorem sh_sheet3 (w : WE) (r : Nat → Int32) : bw_E w 71 r = .inr (4, [.int (r 0), .int (r 1), .ref (bw_ad w 72)]) := rfl
theorem sh_sheet3_row (w : WE) (r : Nat → Int32) : bw_E w 72 r = .inl (bw_ca w 0, 24, .inl r) := rfl
theorem sh_slot0 (w : WE) (r : Nat → Int32) : bw_E w 73 r = .inr (5, [.int (r 0), .ref (bw_ad w 74), .ref (bw_ad w 75), .int (r 3)]) := rfl
theorem sh_slot0_board (w : WE) (r : Nat → Int32) : bw_E w 74 r = .inr (0, [.int (r 0), .int (r 1), .int (r 2), .int (r 3)]) := rfl
theorem sh_slot0_sheet (w : WE) (r : Nat → Int32) : bw_E w 75 r = .inr (4, [.int (r 0), .int (r 1), .ref (bw_ad w 76)]) := rfl
theorem sh_slot0_row (w : WE) (r : Nat → Int32) : bw_E w 76 r = .inl (bw_ca w 0, 24, .inl r) := rfl
theorem sh_slot1 (w : WE) (r : Nat → Int32) : bw_E w 77 r = .inr (5, [.int (r 0), .ref (bw_ad w 78), .ref (bw_ad w 79), .int (r 3)]) := rfl
theorem sh_slot1_board (w : WE) (r : Nat → Int32) : bw_E w 78 r = .inr (0, [.int (r 0), .int (r 1), .int (r 2), .int (r 3)]) := rfl
theorem sh_slot1_sheet (w : WE) (r : Nat → Int32) : bw_E w 79 r = .inr (4, [.int (r 0), .int (r 1), .ref (bw_ad w 80)]) := rfl
theorem sh_slot1_row (w : WE) (r : Nat → Int32) : bw_E w 80 r = .inl (bw_ca w 0, 24, .inl r) := rfl
theorem sh_slot2 (w : WE) (r : Nat → Int32) : bw_E w 81 r = .inr (5, [.int (r 0), .ref (bw_ad w 82), .ref (bw_ad w 83), .int (r 3)]) := rfl
theorem sh_slot2_board (w : WE) (r : Nat → Int32) : bw_E w 82 r = .inr (0, [.int (r 0), .int (r 1), .int (r 2), .int (r 3)]) := rfl
theorem sh_slot2_sheet (w : WE) (r : Nat → Int32) : bw_E w 83 r = .inr (4, [.int (r 0), .int (r 1), .ref (bw_ad w 84)]) := rfl
theorem sh_slot2_row (w : WE) (r : Nat → Int32) : bw_E w 84 r = .inl (bw_ca w 0, 24, .inl r) := rfl
theorem sh_slot3 (w : WE) (r : Nat → Int32) : bw_E w 85 r = .inr (5, [.int (r 0), .ref (bw_ad w 86), .ref (bw_ad w 87), .int (r 3)]) := rfl
theorem sh_slot3_board (w : WE) (r : Nat → Int32) : bw_E w 86 r = .inr (0, [.int (r 0), .int (r 1), .int (r 2), .int (r 3)]) := rfl
theorem sh_slot3_sheet (w : WE) (r : Nat → Int32) : bw_E w 87 r = .inr (4, [.int (r 0), .int (r 1), .ref (bw_ad w 88)]) := rfl
theorem sh_slot3_row (w : WE) (r : Nat → Int32) : bw_E w 88 r = .inl (bw_ca w 0, 24, .inl r) := rfl
theorem sh_slot4 (w : WE) (r : Nat → Int32) : bw_E w 89 r = .inr (5, [.int (r 0), .ref (bw_ad w 90), .ref (bw_ad w 91), .int (r 3)]) := rfl
theorem sh_slot4_board (w : WE) (r : Nat → Int32) : bw_E w 90 r = .inr (0, [.int (r 0), .int (r 1), .int (r 2), .int (r 3)]) := rfl
theorem sh_slot4_sheet (w : WE) (r : Nat → Int32) : bw_E w 91 r = .inr (4, [.int (r 0), .int (r 1), .ref (bw_ad w 92)]) := rfl
theorem sh_slot4_row (w : WE) (r : Nat → Int32) : bw_E w 92 r = .inl (bw_ca w 0, 24, .inl r) := rfl
theorem sh_m (w : WE) (r : Nat → Int32) : bw_E w 93 r = .inr (10, [.ref (bw_ad w 94), .ref (bw_ad w 95), .ref (bw_ad w 96), .int (r 3), .ref (bw_ad w 97), .ref (bw_ad w 98), .ref (bw_ad w 99), .int (r 7), .int (r 8), .ref (bw_ad w 100), .int (r 10), .ref (bw_ad w 101), .ref (bw_ad w 102), .int (r 13), .ref (bw_ad w 103), .ref (bw_ad w 104), .int (r 16), .int (r 17), .ref (bw_ad w 105), .ref (bw_ad w 106), .ref (bw_ad w 107), .ref (bw_ad w 108), .int (r 22), .ref (bw_ad w 109), .int (r 24), .ref (bw_ad w 110), .int (r 26), .int (r 27), .int (r 28), .int (r 29), .int (r 30), .int (r 31), .int (r 32), .ref (bw_ad w 111), .ref (bw_ad w 112), .ref (bw_ad w 113), .int (r 36), .int (r 37), .ref (bw_ad w 114), .int (r 39), .ref (bw_ad w 115), .ref (bw_ad w 116), .ref (bw_ad w 117), .ref (bw_ad w 118), .ref (bw_ad w 119), .ref (bw_ad w 120), .ref (bw_ad w 121), .ref (bw_ad w 122), .ref (bw_ad w 123), .ref (bw_ad w 124), .ref (bw_ad w 125), .ref (bw_ad w 126), .ref (bw_ad w 127), .ref (bw_ad w 128), .int (r 54)]) := rfl
theorem sh_m_now (w : WE) (r : Nat → Int32) : bw_E w 94 r = .inl (bw_ca w 0, 1530, .inl r) := rfl
theorem sh_m_image (w : WE) (r : Nat → Int32) : bw_E w 95 r = .inl (bw_ca w 0, 1530, .inl r) := rfl
theorem sh_m_aside (w : WE) (r : Nat → Int32) : bw_E w 96 r = .inl (bw_ca w 0, 1530, .inl r) := rfl
theorem sh_m_heights (w : WE) (r : Nat → Int32) : bw_E w 97 r = .inl (bw_ca w 0, 25, .inl r) := rfl
theorem sh_m_thicks (w : WE) (r : Nat → Int32) : bw_E w 98 r = .inl (bw_ca w 0, 25, .inl r) := rfl
theorem sh_m_tied (w : WE) (r : Nat → Int32) : bw_E w 99 r = .inl (bw_ca w 1, 25, .inl r) := rfl
theorem sh_m_may (w : WE) (r : Nat → Int32) : bw_E w 100 r = .inl (bw_ca w 0, 6, .inl r) := rfl
theorem sh_m_prices (w : WE) (r : Nat → Int32) : bw_E w 101 r = .inl (bw_ca w 0, 2500, .inl r) := rfl
theorem sh_m_priced (w : WE) (r : Nat → Int32) : bw_E w 102 r = .inl (bw_ca w 0, 2500, .inl r) := rfl
theorem sh_m_least (w : WE) (r : Nat → Int32) : bw_E w 103 r = .inl (bw_ca w 0, 26, .inl r) := rfl
theorem sh_m_firstLine (w : WE) (r : Nat → Int32) : bw_E w 104 r = .inl (bw_ca w 0, 26, .inl r) := rfl
theorem sh_m_starts (w : WE) (r : Nat → Int32) : bw_E w 105 r = .inl (bw_ca w 0, 26, .inl r) := rfl
theorem sh_m_lineOf (w : WE) (r : Nat → Int32) : bw_E w 106 r = .inl (bw_ca w 0, 25, .inl r) := rfl
theorem sh_m_used (w : WE) (r : Nat → Int32) : bw_E w 107 r = .inl (bw_ca w 0, 26, .inl r) := rfl
theorem sh_m_unlike (w : WE) (r : Nat → Int32) : bw_E w 108 r = .inl (bw_ca w 0, 24, .inl r) := rfl
theorem sh_m_bestFew (w : WE) (r : Nat → Int32) : bw_E w 109 r = .inl (bw_ca w 0, 3, .inl r) := rfl
theorem sh_m_tape (w : WE) (r : Nat → Int32) : bw_E w 110 r = .inl (bw_ca w 0, 96, .inl r) := rfl
theorem sh_m_keys (w : WE) (r : Nat → Int32) : bw_E w 111 r = .inl (bw_ca w 2, 12, .inl r) := rfl
theorem sh_m_keyAt (w : WE) (r : Nat → Int32) : bw_E w 112 r = .inl (bw_ca w 0, 4, .inl r) := rfl
theorem sh_m_code (w : WE) (r : Nat → Int32) : bw_E w 113 r = .inl (bw_ca w 0, 96, .inl r) := rfl
theorem sh_m_waits (w : WE) (r : Nat → Int32) : bw_E w 114 r = .inl (bw_ca w 0, 96, .inl r) := rfl
theorem sh_m_tested (w : WE) (r : Nat → Int32) : bw_E w 115 r = .inl (bw_ca w 1, 10, .inl r) := rfl
theorem sh_m_stack (w : WE) (r : Nat → Int32) : bw_E w 116 r = .inl (bw_ca w 0, 96, .inl r) := rfl
theorem sh_m_facts (w : WE) (r : Nat → Int32) : bw_E w 117 r = .inl (bw_ca w 0, 4, .inl r) := rfl
theorem sh_m_full (w : WE) (r : Nat → Int32) : bw_E w 118 r = .inl (bw_ca w 0, 25, .inl r) := rfl
theorem sh_m_were (w : WE) (r : Nat → Int32) : bw_E w 119 r = .inl (bw_ca w 0, 25, .inl r) := rfl
theorem sh_m_sorts (w : WE) (r : Nat → Int32) : bw_E w 120 r = .inl (bw_ca w 0, 4, .inl r) := rfl
theorem sh_m_sizes (w : WE) (r : Nat → Int32) : bw_E w 121 r = .inl (bw_ca w 0, 4, .inl r) := rfl
theorem sh_m_cells (w : WE) (r : Nat → Int32) : bw_E w 122 r = .inl (bw_ca w 0, 96, .inl r) := rfl
theorem sh_m_holds (w : WE) (r : Nat → Int32) : bw_E w 123 r = .inl (bw_ca w 0, 5, .inl r) := rfl
theorem sh_m_holdsA (w : WE) (r : Nat → Int32) : bw_E w 124 r = .inl (bw_ca w 0, 5, .inl r) := rfl
theorem sh_m_holdsB (w : WE) (r : Nat → Int32) : bw_E w 125 r = .inl (bw_ca w 0, 5, .inl r) := rfl
theorem sh_m_heldCells (w : WE) (r : Nat → Int32) : bw_E w 126 r = .inl (bw_ca w 0, 120, .inl r) := rfl
theorem sh_m_moved (w : WE) (r : Nat → Int32) : bw_E w 127 r = .inl (bw_ca w 0, 24, .inl r) := rfl
theorem sh_m_tells (w : WE) (r : Nat → Int32) : bw_E w 128 r = .inl (bw_ca w 0, 60, .inl r) := rfl
