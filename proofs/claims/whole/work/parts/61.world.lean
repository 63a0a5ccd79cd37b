/-! THE WORKS: their world: fixed cells at 1..34, all else in g -/
/-- int arrays by address, long arrays by address, int fields by object and field, long fields, the ring, the streams of the places -/
abbrev cw : Type := (Nat → Nat → Int32) × (Nat → Nat → Int64) × (Nat → Nat → Int32) × (Nat → Nat → Int64) × (Nat → Option Nat) × (Nat → Value)
def cw_list (W : cw) : List jx_E := [.inr (11, [.ref 2, .int (W.2.2.1 1 1), .int (W.2.2.1 1 2), .int (W.2.2.1 1 3), .ref 3, .ref 10, .ref 15, .ref 19, .ref 34, .int (W.2.2.1 1 9)]), .inl (6, 201, .inr (.inr (.inr (.inr (W.2.2.2.2.1))))), .inr (0, [.ref 4, .ref 6, .ref 7, .ref 8, .ref 9, .long (W.2.2.2.1 3 5)]), .inr (3, [.ref 5, .int (W.2.2.1 4 1)]), .inl (0, 110, .inl (W.1 5)), .inl (1, 110, .inr (.inl (W.2.1 6))), .inl (1, 110, .inr (.inl (W.2.1 7))), .inl (1, 110, .inr (.inl (W.2.1 8))), .inl (1, 110, .inr (.inl (W.2.1 9))), .inr (2, [.ref 11, .ref 12, .ref 13, .ref 14, .int (W.2.2.1 10 4), .int (W.2.2.1 10 5), .long (W.2.2.2.1 10 6), .long (W.2.2.2.1 10 7)]), .inl (1, 12, .inr (.inl (W.2.1 11))), .inl (0, 20, .inl (W.1 12)), .inr (6, [W.2.2.2.2.2 13, .int (W.2.2.1 13 1), .int (W.2.2.1 13 2), .int (W.2.2.1 13 3), .long (W.2.2.2.1 13 4)]), .inr (6, [W.2.2.2.2.2 14, .int (W.2.2.1 14 1), .int (W.2.2.1 14 2), .int (W.2.2.1 14 3), .long (W.2.2.2.1 14 4)]), .inr (1, [.ref 16, .ref 17, .ref 18, .int (W.2.2.1 15 3)]), .inl (1, 14, .inr (.inl (W.2.1 16))), .inl (1, 8192, .inr (.inl (W.2.1 17))), .inl (2, 8192, .inl (W.1 18)), .inr (7, [.ref 20, .ref 22, .ref 33, .int (W.2.2.1 19 3), .int (W.2.2.1 19 4)]), .inr (3, [.ref 21, .int (W.2.2.1 20 1)]), .inl (0, 110, .inl (W.1 21)), .inr (5, [.ref 23, .ref 24, .ref 25, .ref 26, .ref 27, .ref 28, .ref 29, .ref 30, .ref 31, .ref 32, .int (W.2.2.1 22 10), .int (W.2.2.1 22 11), .int (W.2.2.1 22 12), .int (W.2.2.1 22 13)]), .inl (0, 1324, .inl (W.1 23)), .inl (0, 11886, .inl (W.1 24)), .inl (0, 11886, .inl (W.1 25)), .inl (0, 11886, .inl (W.1 26)), .inl (0, 11886, .inl (W.1 27)), .inl (0, 1324, .inl (W.1 28)), .inl (0, 1324, .inl (W.1 29)), .inl (3, 1324, .inl (W.1 30)), .inl (0, 1324, .inl (W.1 31)), .inl (0, 1324, .inl (W.1 32)), .inl (0, 12, .inl (W.1 33)), .inl (1, 4, .inr (.inl (W.2.1 34)))]
def cw_A (W : cw) (k : Nat) (f : Nat → Int32) : cw := (fun j => if j = k then f else W.1 j, W.2)
def cw_B (W : cw) (k : Nat) (f : Nat → Int64) : cw := (W.1, fun j => if j = k then f else W.2.1 j, W.2.2)
def cw_I (W : cw) (k y : Nat) (x : Int32) : cw := (W.1, W.2.1, fun j z => if j = k ∧ z = y then x else W.2.2.1 j z, W.2.2.2)
def cw_L (W : cw) (k y : Nat) (x : Int64) : cw := (W.1, W.2.1, W.2.2.1, fun j z => if j = k ∧ z = y then x else W.2.2.2.1 j z, W.2.2.2.2)
def cw_P (W : cw) (f : Nat → Option Nat) : cw := (W.1, W.2.1, W.2.2.1, W.2.2.2.1, f, W.2.2.2.2.2)
def cw_Q (W : cw) (k : Nat) (x : Value) : cw := (W.1, W.2.1, W.2.2.1, W.2.2.2.1, W.2.2.2.2.1, fun j => if j = k then x else W.2.2.2.2.2 j)
theorem cw_c1 (W : cw) : (cw_list W)[1 - 1]? = some (.inr (11, [.ref 2, .int (W.2.2.1 1 1), .int (W.2.2.1 1 2), .int (W.2.2.1 1 3), .ref 3, .ref 10, .ref 15, .ref 19, .ref 34, .int (W.2.2.1 1 9)])) := rfl
theorem cw_c2 (W : cw) : (cw_list W)[2 - 1]? = some (.inl (6, 201, .inr (.inr (.inr (.inr (W.2.2.2.2.1)))))) := rfl
theorem cw_c3 (W : cw) : (cw_list W)[3 - 1]? = some (.inr (0, [.ref 4, .ref 6, .ref 7, .ref 8, .ref 9, .long (W.2.2.2.1 3 5)])) := rfl
theorem cw_c4 (W : cw) : (cw_list W)[4 - 1]? = some (.inr (3, [.ref 5, .int (W.2.2.1 4 1)])) := rfl
theorem cw_c5 (W : cw) : (cw_list W)[5 - 1]? = some (.inl (0, 110, .inl (W.1 5))) := rfl
theorem cw_c6 (W : cw) : (cw_list W)[6 - 1]? = some (.inl (1, 110, .inr (.inl (W.2.1 6)))) := rfl
theorem cw_c7 (W : cw) : (cw_list W)[7 - 1]? = some (.inl (1, 110, .inr (.inl (W.2.1 7)))) := rfl
theorem cw_c8 (W : cw) : (cw_list W)[8 - 1]? = some (.inl (1, 110, .inr (.inl (W.2.1 8)))) := rfl
theorem cw_c9 (W : cw) : (cw_list W)[9 - 1]? = some (.inl (1, 110, .inr (.inl (W.2.1 9)))) := rfl
theorem cw_c10 (W : cw) : (cw_list W)[10 - 1]? = some (.inr (2, [.ref 11, .ref 12, .ref 13, .ref 14, .int (W.2.2.1 10 4), .int (W.2.2.1 10 5), .long (W.2.2.2.1 10 6), .long (W.2.2.2.1 10 7)])) := rfl
theorem cw_c11 (W : cw) : (cw_list W)[11 - 1]? = some (.inl (1, 12, .inr (.inl (W.2.1 11)))) := rfl
theorem cw_c12 (W : cw) : (cw_list W)[12 - 1]? = some (.inl (0, 20, .inl (W.1 12))) := rfl
theorem cw_c13 (W : cw) : (cw_list W)[13 - 1]? = some (.inr (6, [W.2.2.2.2.2 13, .int (W.2.2.1 13 1), .int (W.2.2.1 13 2), .int (W.2.2.1 13 3), .long (W.2.2.2.1 13 4)])) := rfl
theorem cw_c14 (W : cw) : (cw_list W)[14 - 1]? = some (.inr (6, [W.2.2.2.2.2 14, .int (W.2.2.1 14 1), .int (W.2.2.1 14 2), .int (W.2.2.1 14 3), .long (W.2.2.2.1 14 4)])) := rfl
theorem cw_c15 (W : cw) : (cw_list W)[15 - 1]? = some (.inr (1, [.ref 16, .ref 17, .ref 18, .int (W.2.2.1 15 3)])) := rfl
theorem cw_c16 (W : cw) : (cw_list W)[16 - 1]? = some (.inl (1, 14, .inr (.inl (W.2.1 16)))) := rfl
theorem cw_c17 (W : cw) : (cw_list W)[17 - 1]? = some (.inl (1, 8192, .inr (.inl (W.2.1 17)))) := rfl
theorem cw_c18 (W : cw) : (cw_list W)[18 - 1]? = some (.inl (2, 8192, .inl (W.1 18))) := rfl
theorem cw_c19 (W : cw) : (cw_list W)[19 - 1]? = some (.inr (7, [.ref 20, .ref 22, .ref 33, .int (W.2.2.1 19 3), .int (W.2.2.1 19 4)])) := rfl
theorem cw_c20 (W : cw) : (cw_list W)[20 - 1]? = some (.inr (3, [.ref 21, .int (W.2.2.1 20 1)])) := rfl
theorem cw_c21 (W : cw) : (cw_list W)[21 - 1]? = some (.inl (0, 110, .inl (W.1 21))) := rfl
theorem cw_c22 (W : cw) : (cw_list W)[22 - 1]? = some (.inr (5, [.ref 23, .ref 24, .ref 25, .ref 26, .ref 27, .ref 28, .ref 29, .ref 30, .ref 31, .ref 32, .int (W.2.2.1 22 10), .int (W.2.2.1 22 11), .int (W.2.2.1 22 12), .int (W.2.2.1 22 13)])) := rfl
theorem cw_c23 (W : cw) : (cw_list W)[23 - 1]? = some (.inl (0, 1324, .inl (W.1 23))) := rfl
theorem cw_c24 (W : cw) : (cw_list W)[24 - 1]? = some (.inl (0, 11886, .inl (W.1 24))) := rfl
theorem cw_c25 (W : cw) : (cw_list W)[25 - 1]? = some (.inl (0, 11886, .inl (W.1 25))) := rfl
theorem cw_c26 (W : cw) : (cw_list W)[26 - 1]? = some (.inl (0, 11886, .inl (W.1 26))) := rfl
theorem cw_c27 (W : cw) : (cw_list W)[27 - 1]? = some (.inl (0, 11886, .inl (W.1 27))) := rfl
theorem cw_c28 (W : cw) : (cw_list W)[28 - 1]? = some (.inl (0, 1324, .inl (W.1 28))) := rfl
theorem cw_c29 (W : cw) : (cw_list W)[29 - 1]? = some (.inl (0, 1324, .inl (W.1 29))) := rfl
theorem cw_c30 (W : cw) : (cw_list W)[30 - 1]? = some (.inl (3, 1324, .inl (W.1 30))) := rfl
theorem cw_c31 (W : cw) : (cw_list W)[31 - 1]? = some (.inl (0, 1324, .inl (W.1 31))) := rfl
theorem cw_c32 (W : cw) : (cw_list W)[32 - 1]? = some (.inl (0, 1324, .inl (W.1 32))) := rfl
theorem cw_c33 (W : cw) : (cw_list W)[33 - 1]? = some (.inl (0, 12, .inl (W.1 33))) := rfl
theorem cw_c34 (W : cw) : (cw_list W)[34 - 1]? = some (.inl (1, 4, .inr (.inl (W.2.1 34)))) := rfl
theorem cw_s2 (W : cw) (f : Nat → Option Nat) : (cw_list W).set (2 - 1) (.inl (6, 201, .inr (.inr (.inr (.inr (f)))))) = cw_list (cw_P W f) := rfl
theorem cw_s5 (W : cw) (f : Nat → Int32) : (cw_list W).set (5 - 1) (.inl (0, 110, .inl (f))) = cw_list (cw_A W 5 f) := rfl
theorem cw_s6 (W : cw) (f : Nat → Int64) : (cw_list W).set (6 - 1) (.inl (1, 110, .inr (.inl (f)))) = cw_list (cw_B W 6 f) := rfl
theorem cw_s7 (W : cw) (f : Nat → Int64) : (cw_list W).set (7 - 1) (.inl (1, 110, .inr (.inl (f)))) = cw_list (cw_B W 7 f) := rfl
theorem cw_s8 (W : cw) (f : Nat → Int64) : (cw_list W).set (8 - 1) (.inl (1, 110, .inr (.inl (f)))) = cw_list (cw_B W 8 f) := rfl
theorem cw_s9 (W : cw) (f : Nat → Int64) : (cw_list W).set (9 - 1) (.inl (1, 110, .inr (.inl (f)))) = cw_list (cw_B W 9 f) := rfl
theorem cw_s11 (W : cw) (f : Nat → Int64) : (cw_list W).set (11 - 1) (.inl (1, 12, .inr (.inl (f)))) = cw_list (cw_B W 11 f) := rfl
theorem cw_s12 (W : cw) (f : Nat → Int32) : (cw_list W).set (12 - 1) (.inl (0, 20, .inl (f))) = cw_list (cw_A W 12 f) := rfl
theorem cw_s16 (W : cw) (f : Nat → Int64) : (cw_list W).set (16 - 1) (.inl (1, 14, .inr (.inl (f)))) = cw_list (cw_B W 16 f) := rfl
theorem cw_s17 (W : cw) (f : Nat → Int64) : (cw_list W).set (17 - 1) (.inl (1, 8192, .inr (.inl (f)))) = cw_list (cw_B W 17 f) := rfl
theorem cw_s18 (W : cw) (f : Nat → Int32) : (cw_list W).set (18 - 1) (.inl (2, 8192, .inl (f))) = cw_list (cw_A W 18 f) := rfl
theorem cw_s21 (W : cw) (f : Nat → Int32) : (cw_list W).set (21 - 1) (.inl (0, 110, .inl (f))) = cw_list (cw_A W 21 f) := rfl
theorem cw_s23 (W : cw) (f : Nat → Int32) : (cw_list W).set (23 - 1) (.inl (0, 1324, .inl (f))) = cw_list (cw_A W 23 f) := rfl
theorem cw_s24 (W : cw) (f : Nat → Int32) : (cw_list W).set (24 - 1) (.inl (0, 11886, .inl (f))) = cw_list (cw_A W 24 f) := rfl
theorem cw_s25 (W : cw) (f : Nat → Int32) : (cw_list W).set (25 - 1) (.inl (0, 11886, .inl (f))) = cw_list (cw_A W 25 f) := rfl
theorem cw_s26 (W : cw) (f : Nat → Int32) : (cw_list W).set (26 - 1) (.inl (0, 11886, .inl (f))) = cw_list (cw_A W 26 f) := rfl
theorem cw_s27 (W : cw) (f : Nat → Int32) : (cw_list W).set (27 - 1) (.inl (0, 11886, .inl (f))) = cw_list (cw_A W 27 f) := rfl
theorem cw_s28 (W : cw) (f : Nat → Int32) : (cw_list W).set (28 - 1) (.inl (0, 1324, .inl (f))) = cw_list (cw_A W 28 f) := rfl
theorem cw_s29 (W : cw) (f : Nat → Int32) : (cw_list W).set (29 - 1) (.inl (0, 1324, .inl (f))) = cw_list (cw_A W 29 f) := rfl
theorem cw_s30 (W : cw) (f : Nat → Int32) : (cw_list W).set (30 - 1) (.inl (3, 1324, .inl (f))) = cw_list (cw_A W 30 f) := rfl
theorem cw_s31 (W : cw) (f : Nat → Int32) : (cw_list W).set (31 - 1) (.inl (0, 1324, .inl (f))) = cw_list (cw_A W 31 f) := rfl
theorem cw_s32 (W : cw) (f : Nat → Int32) : (cw_list W).set (32 - 1) (.inl (0, 1324, .inl (f))) = cw_list (cw_A W 32 f) := rfl
theorem cw_s33 (W : cw) (f : Nat → Int32) : (cw_list W).set (33 - 1) (.inl (0, 12, .inl (f))) = cw_list (cw_A W 33 f) := rfl
theorem cw_s34 (W : cw) (f : Nat → Int64) : (cw_list W).set (34 - 1) (.inl (1, 4, .inr (.inl (f)))) = cw_list (cw_B W 34 f) := rfl
theorem cw_f1_1 (W : cw) (x : Int32) : (cw_list W).set (1 - 1) (.inr (11, ([.ref 2, .int (W.2.2.1 1 1), .int (W.2.2.1 1 2), .int (W.2.2.1 1 3), .ref 3, .ref 10, .ref 15, .ref 19, .ref 34, .int (W.2.2.1 1 9)] : List Value).set 1 (.int x))) = cw_list (cw_I W 1 1 x) := rfl
theorem cw_f1_2 (W : cw) (x : Int32) : (cw_list W).set (1 - 1) (.inr (11, ([.ref 2, .int (W.2.2.1 1 1), .int (W.2.2.1 1 2), .int (W.2.2.1 1 3), .ref 3, .ref 10, .ref 15, .ref 19, .ref 34, .int (W.2.2.1 1 9)] : List Value).set 2 (.int x))) = cw_list (cw_I W 1 2 x) := rfl
theorem cw_f1_3 (W : cw) (x : Int32) : (cw_list W).set (1 - 1) (.inr (11, ([.ref 2, .int (W.2.2.1 1 1), .int (W.2.2.1 1 2), .int (W.2.2.1 1 3), .ref 3, .ref 10, .ref 15, .ref 19, .ref 34, .int (W.2.2.1 1 9)] : List Value).set 3 (.int x))) = cw_list (cw_I W 1 3 x) := rfl
theorem cw_f1_9 (W : cw) (x : Int32) : (cw_list W).set (1 - 1) (.inr (11, ([.ref 2, .int (W.2.2.1 1 1), .int (W.2.2.1 1 2), .int (W.2.2.1 1 3), .ref 3, .ref 10, .ref 15, .ref 19, .ref 34, .int (W.2.2.1 1 9)] : List Value).set 9 (.int x))) = cw_list (cw_I W 1 9 x) := rfl
theorem cw_f3_5 (W : cw) (x : Int64) : (cw_list W).set (3 - 1) (.inr (0, ([.ref 4, .ref 6, .ref 7, .ref 8, .ref 9, .long (W.2.2.2.1 3 5)] : List Value).set 5 (.long x))) = cw_list (cw_L W 3 5 x) := rfl
theorem cw_f4_1 (W : cw) (x : Int32) : (cw_list W).set (4 - 1) (.inr (3, ([.ref 5, .int (W.2.2.1 4 1)] : List Value).set 1 (.int x))) = cw_list (cw_I W 4 1 x) := rfl
theorem cw_f10_4 (W : cw) (x : Int32) : (cw_list W).set (10 - 1) (.inr (2, ([.ref 11, .ref 12, .ref 13, .ref 14, .int (W.2.2.1 10 4), .int (W.2.2.1 10 5), .long (W.2.2.2.1 10 6), .long (W.2.2.2.1 10 7)] : List Value).set 4 (.int x))) = cw_list (cw_I W 10 4 x) := rfl
theorem cw_f10_5 (W : cw) (x : Int32) : (cw_list W).set (10 - 1) (.inr (2, ([.ref 11, .ref 12, .ref 13, .ref 14, .int (W.2.2.1 10 4), .int (W.2.2.1 10 5), .long (W.2.2.2.1 10 6), .long (W.2.2.2.1 10 7)] : List Value).set 5 (.int x))) = cw_list (cw_I W 10 5 x) := rfl
theorem cw_f10_6 (W : cw) (x : Int64) : (cw_list W).set (10 - 1) (.inr (2, ([.ref 11, .ref 12, .ref 13, .ref 14, .int (W.2.2.1 10 4), .int (W.2.2.1 10 5), .long (W.2.2.2.1 10 6), .long (W.2.2.2.1 10 7)] : List Value).set 6 (.long x))) = cw_list (cw_L W 10 6 x) := rfl
theorem cw_f10_7 (W : cw) (x : Int64) : (cw_list W).set (10 - 1) (.inr (2, ([.ref 11, .ref 12, .ref 13, .ref 14, .int (W.2.2.1 10 4), .int (W.2.2.1 10 5), .long (W.2.2.2.1 10 6), .long (W.2.2.2.1 10 7)] : List Value).set 7 (.long x))) = cw_list (cw_L W 10 7 x) := rfl
theorem cw_f13_0 (W : cw) (x : Value) : (cw_list W).set (13 - 1) (.inr (6, ([W.2.2.2.2.2 13, .int (W.2.2.1 13 1), .int (W.2.2.1 13 2), .int (W.2.2.1 13 3), .long (W.2.2.2.1 13 4)] : List Value).set 0 (x))) = cw_list (cw_Q W 13 x) := rfl
theorem cw_f13_1 (W : cw) (x : Int32) : (cw_list W).set (13 - 1) (.inr (6, ([W.2.2.2.2.2 13, .int (W.2.2.1 13 1), .int (W.2.2.1 13 2), .int (W.2.2.1 13 3), .long (W.2.2.2.1 13 4)] : List Value).set 1 (.int x))) = cw_list (cw_I W 13 1 x) := rfl
theorem cw_f13_2 (W : cw) (x : Int32) : (cw_list W).set (13 - 1) (.inr (6, ([W.2.2.2.2.2 13, .int (W.2.2.1 13 1), .int (W.2.2.1 13 2), .int (W.2.2.1 13 3), .long (W.2.2.2.1 13 4)] : List Value).set 2 (.int x))) = cw_list (cw_I W 13 2 x) := rfl
theorem cw_f13_3 (W : cw) (x : Int32) : (cw_list W).set (13 - 1) (.inr (6, ([W.2.2.2.2.2 13, .int (W.2.2.1 13 1), .int (W.2.2.1 13 2), .int (W.2.2.1 13 3), .long (W.2.2.2.1 13 4)] : List Value).set 3 (.int x))) = cw_list (cw_I W 13 3 x) := rfl
theorem cw_f13_4 (W : cw) (x : Int64) : (cw_list W).set (13 - 1) (.inr (6, ([W.2.2.2.2.2 13, .int (W.2.2.1 13 1), .int (W.2.2.1 13 2), .int (W.2.2.1 13 3), .long (W.2.2.2.1 13 4)] : List Value).set 4 (.long x))) = cw_list (cw_L W 13 4 x) := rfl
theorem cw_f14_0 (W : cw) (x : Value) : (cw_list W).set (14 - 1) (.inr (6, ([W.2.2.2.2.2 14, .int (W.2.2.1 14 1), .int (W.2.2.1 14 2), .int (W.2.2.1 14 3), .long (W.2.2.2.1 14 4)] : List Value).set 0 (x))) = cw_list (cw_Q W 14 x) := rfl
theorem cw_f14_1 (W : cw) (x : Int32) : (cw_list W).set (14 - 1) (.inr (6, ([W.2.2.2.2.2 14, .int (W.2.2.1 14 1), .int (W.2.2.1 14 2), .int (W.2.2.1 14 3), .long (W.2.2.2.1 14 4)] : List Value).set 1 (.int x))) = cw_list (cw_I W 14 1 x) := rfl
theorem cw_f14_2 (W : cw) (x : Int32) : (cw_list W).set (14 - 1) (.inr (6, ([W.2.2.2.2.2 14, .int (W.2.2.1 14 1), .int (W.2.2.1 14 2), .int (W.2.2.1 14 3), .long (W.2.2.2.1 14 4)] : List Value).set 2 (.int x))) = cw_list (cw_I W 14 2 x) := rfl
theorem cw_f14_3 (W : cw) (x : Int32) : (cw_list W).set (14 - 1) (.inr (6, ([W.2.2.2.2.2 14, .int (W.2.2.1 14 1), .int (W.2.2.1 14 2), .int (W.2.2.1 14 3), .long (W.2.2.2.1 14 4)] : List Value).set 3 (.int x))) = cw_list (cw_I W 14 3 x) := rfl
theorem cw_f14_4 (W : cw) (x : Int64) : (cw_list W).set (14 - 1) (.inr (6, ([W.2.2.2.2.2 14, .int (W.2.2.1 14 1), .int (W.2.2.1 14 2), .int (W.2.2.1 14 3), .long (W.2.2.2.1 14 4)] : List Value).set 4 (.long x))) = cw_list (cw_L W 14 4 x) := rfl
theorem cw_f15_3 (W : cw) (x : Int32) : (cw_list W).set (15 - 1) (.inr (1, ([.ref 16, .ref 17, .ref 18, .int (W.2.2.1 15 3)] : List Value).set 3 (.int x))) = cw_list (cw_I W 15 3 x) := rfl
theorem cw_f19_3 (W : cw) (x : Int32) : (cw_list W).set (19 - 1) (.inr (7, ([.ref 20, .ref 22, .ref 33, .int (W.2.2.1 19 3), .int (W.2.2.1 19 4)] : List Value).set 3 (.int x))) = cw_list (cw_I W 19 3 x) := rfl
theorem cw_f19_4 (W : cw) (x : Int32) : (cw_list W).set (19 - 1) (.inr (7, ([.ref 20, .ref 22, .ref 33, .int (W.2.2.1 19 3), .int (W.2.2.1 19 4)] : List Value).set 4 (.int x))) = cw_list (cw_I W 19 4 x) := rfl
theorem cw_f20_1 (W : cw) (x : Int32) : (cw_list W).set (20 - 1) (.inr (3, ([.ref 21, .int (W.2.2.1 20 1)] : List Value).set 1 (.int x))) = cw_list (cw_I W 20 1 x) := rfl
theorem cw_f22_10 (W : cw) (x : Int32) : (cw_list W).set (22 - 1) (.inr (5, ([.ref 23, .ref 24, .ref 25, .ref 26, .ref 27, .ref 28, .ref 29, .ref 30, .ref 31, .ref 32, .int (W.2.2.1 22 10), .int (W.2.2.1 22 11), .int (W.2.2.1 22 12), .int (W.2.2.1 22 13)] : List Value).set 10 (.int x))) = cw_list (cw_I W 22 10 x) := rfl
theorem cw_f22_11 (W : cw) (x : Int32) : (cw_list W).set (22 - 1) (.inr (5, ([.ref 23, .ref 24, .ref 25, .ref 26, .ref 27, .ref 28, .ref 29, .ref 30, .ref 31, .ref 32, .int (W.2.2.1 22 10), .int (W.2.2.1 22 11), .int (W.2.2.1 22 12), .int (W.2.2.1 22 13)] : List Value).set 11 (.int x))) = cw_list (cw_I W 22 11 x) := rfl
theorem cw_f22_12 (W : cw) (x : Int32) : (cw_list W).set (22 - 1) (.inr (5, ([.ref 23, .ref 24, .ref 25, .ref 26, .ref 27, .ref 28, .ref 29, .ref 30, .ref 31, .ref 32, .int (W.2.2.1 22 10), .int (W.2.2.1 22 11), .int (W.2.2.1 22 12), .int (W.2.2.1 22 13)] : List Value).set 12 (.int x))) = cw_list (cw_I W 22 12 x) := rfl
theorem cw_f22_13 (W : cw) (x : Int32) : (cw_list W).set (22 - 1) (.inr (5, ([.ref 23, .ref 24, .ref 25, .ref 26, .ref 27, .ref 28, .ref 29, .ref 30, .ref 31, .ref 32, .int (W.2.2.1 22 10), .int (W.2.2.1 22 11), .int (W.2.2.1 22 12), .int (W.2.2.1 22 13)] : List Value).set 13 (.int x))) = cw_list (cw_I W 22 13 x) := rfl
def hc (W : cw) (g : Nat → Option jx_E) (nx s : Nat) : jx_H := (nx, s, fun a => if 1 ≤ a ∧ a < 35 then (cw_list W)[a - 1]? else g a)
section CLW
variable {W W2 : cw} {g : Nat → Option jx_E} {nx s : Nat}
theorem hc_in {a : Nat} (h : 1 ≤ a ∧ a < 35) : (hc W g nx s).2.2 a = (cw_list W)[a - 1]? := if_pos h
theorem hc_out {a : Nat} (h : 35 ≤ a) : (hc W g nx s).2.2 a = g a := if_neg (by omega)
theorem cw_len : (cw_list W).length = 34 := rfl
theorem hc_set {a : Nat} {e : jx_E} (h : 1 ≤ a ∧ a < 35) (hs : (cw_list W).set (a - 1) e = cw_list W2) : jx_set (hc W g nx s) a e = hc W2 g nx s := by
  unfold jx_set hc
  refine Prod.ext rfl (Prod.ext rfl ?_)
  funext q
  show jx_up _ a e q = _
  unfold jx_up
  dsimp only
  rw [← hs]
  by_cases e1 : q = a
  · subst e1
    rw [if_pos rfl, if_pos h, List.getElem?_set_self (by rw [cw_len]; omega)]
  · rw [if_neg e1]
    by_cases h2 : 1 ≤ q ∧ q < 35
    · rw [if_pos h2, if_pos h2, List.getElem?_set_ne (by omega)]
    · rw [if_neg h2, if_neg h2]
theorem hc_seto {a : Nat} {e : jx_E} (h : 35 ≤ a) : jx_set (hc W g nx s) a e = hc W (jx_up g a e) nx s := by
  unfold jx_set hc
  refine Prod.ext rfl (Prod.ext rfl ?_)
  funext q
  show jx_up _ a e q = _
  unfold jx_up
  dsimp only
  by_cases e1 : q = a
  · subst e1
    rw [if_pos rfl, if_neg (by omega), if_pos rfl]
  · rw [if_neg e1, if_neg e1]
theorem hc_new {z : Nat} {e : jx_E} (h : 35 ≤ nx) : jx_new (hc W g nx s) z e = hc W (jx_up g nx e) (nx + 1) (s + z) := by
  unfold jx_new hc
  refine Prod.ext rfl (Prod.ext rfl ?_)
  funext q
  show jx_up _ nx e q = _
  unfold jx_up
  dsimp only
  by_cases e1 : q = nx
  · subst e1
    rw [if_pos rfl, if_neg (by omega), if_pos rfl]
  · rw [if_neg e1, if_neg e1]
end CLW
/-! rules for their methods -/
section CLR
variable {W W2 : cw} {g : Nat → Option jx_E} {nx s : Nat} {m pc : Nat} {ls st : List Value} {v : Option Value} {h h2 : jx_H}
theorem cl.get (a : Nat) (ha : 1 ≤ a ∧ a < 35) {n x y : Nat} {vv w : Value} {fs : List Value} (hr : jx_rc m pc = some (.getfield n, 3, x, y, vv)) (he : (cw_list W)[a - 1]? = some (.inr (x, fs))) (hw : fs[y]? = some w) (k : jx_T m (pc + 3) ls (w :: st) (hc W g nx s) v h2) : jx_T m pc ls (.ref a :: st) (hc W g nx s) v h2 := jx_T.getf hr ((hc_in ha).trans he) hw k
theorem cl.geti {a : Nat} (ha : 35 ≤ a) {n x y : Nat} {vv w : Value} {fs : List Value} (hg : g a = some (.inr (x, fs))) (hr : jx_rc m pc = some (.getfield n, 3, x, y, vv)) (hw : fs[y]? = some w) (k : jx_T m (pc + 3) ls (w :: st) (hc W g nx s) v h2) : jx_T m pc ls (.ref a :: st) (hc W g nx s) v h2 := jx_T.getf hr ((hc_out ha).trans hg) hw k
theorem cl.put (a : Nat) (ha : 1 ≤ a ∧ a < 35) {n x y : Nat} {vv w : Value} {fs : List Value} (hr : jx_rc m pc = some (.putfield n, 3, x, y, vv)) (he : (cw_list W)[a - 1]? = some (.inr (x, fs))) (hl : y < fs.length) (hf : jx_fit ((jx_fty.getD x []).getD y .int) w = true) (hs : (cw_list W).set (a - 1) (.inr (x, fs.set y w)) = cw_list W2) (k : jx_T m (pc + 3) ls st (hc W2 g nx s) v h2) : jx_T m pc ls (w :: .ref a :: st) (hc W g nx s) v h2 := jx_T.putf hr ((hc_in ha).trans he) hl hf (by rw [hc_set ha hs]; exact k)
theorem cl.iald (a : Nat) (ha : 1 ≤ a ∧ a < 35) {x y n : Nat} {vv : Value} {f : Nat → Int32} {i : Int32} (hr : jx_rc m pc = some (.iaload, 1, x, y, vv)) (he : (cw_list W)[a - 1]? = some (.inl (0, n, .inl f))) (hi : ¬ (i < 0) ∧ i.toNatClampNeg < n) (k : jx_T m (pc + 1) ls (.int (f i.toNatClampNeg) :: st) (hc W g nx s) v h2) : jx_T m pc ls (.int i :: .ref a :: st) (hc W g nx s) v h2 := jx_T.iald hr ((hc_in ha).trans he) (Or.inl rfl) hi k
theorem cl.bald (a : Nat) (ha : 1 ≤ a ∧ a < 35) {x y t n : Nat} {vv : Value} {f : Nat → Int32} {i : Int32} (hr : jx_rc m pc = some (.baload, 1, x, y, vv)) (he : (cw_list W)[a - 1]? = some (.inl (t, n, .inl f))) (ht : t = 2 ∨ t = 3) (hi : ¬ (i < 0) ∧ i.toNatClampNeg < n) (k : jx_T m (pc + 1) ls (.int (f i.toNatClampNeg) :: st) (hc W g nx s) v h2) : jx_T m pc ls (.int i :: .ref a :: st) (hc W g nx s) v h2 := jx_T.bald hr ((hc_in ha).trans he) ht hi k
theorem cl.lald (a : Nat) (ha : 1 ≤ a ∧ a < 35) {x y n : Nat} {vv : Value} {f : Nat → Int64} {i : Int32} (hr : jx_rc m pc = some (.laload, 1, x, y, vv)) (he : (cw_list W)[a - 1]? = some (.inl (1, n, .inr (.inl f)))) (hi : ¬ (i < 0) ∧ i.toNatClampNeg < n) (k : jx_T m (pc + 1) ls (.long (f i.toNatClampNeg) :: st) (hc W g nx s) v h2) : jx_T m pc ls (.int i :: .ref a :: st) (hc W g nx s) v h2 := jx_T.lald hr ((hc_in ha).trans he) hi k
theorem cl.aald (a : Nat) (ha : 1 ≤ a ∧ a < 35) {x y t n : Nat} {vv : Value} {f : Nat → Option Nat} {i : Int32} (hr : jx_rc m pc = some (.aaload, 1, x, y, vv)) (he : (cw_list W)[a - 1]? = some (.inl (t, n, .inr (.inr (.inr (.inr f)))))) (ht : 4 ≤ t ∧ t < 8) (hi : ¬ (i < 0) ∧ i.toNatClampNeg < n) (k : jx_T m (pc + 1) ls (va_rf (f i.toNatClampNeg) :: st) (hc W g nx s) v h2) : jx_T m pc ls (.int i :: .ref a :: st) (hc W g nx s) v h2 := jx_T.aald hr ((hc_in ha).trans he) ht hi k
theorem cl.ialdi {a : Nat} (ha : 35 ≤ a) {x y n : Nat} {vv : Value} {f : Nat → Int32} {i : Int32} (hg : g a = some (.inl (0, n, .inl f))) (hr : jx_rc m pc = some (.iaload, 1, x, y, vv)) (hi : ¬ (i < 0) ∧ i.toNatClampNeg < n) (k : jx_T m (pc + 1) ls (.int (f i.toNatClampNeg) :: st) (hc W g nx s) v h2) : jx_T m pc ls (.int i :: .ref a :: st) (hc W g nx s) v h2 := jx_T.iald hr ((hc_out ha).trans hg) (Or.inl rfl) hi k
theorem cl.aaldi {a : Nat} (ha : 35 ≤ a) {x y t n : Nat} {vv : Value} {f : Nat → Option Nat} {i : Int32} (hg : g a = some (.inl (t, n, .inr (.inr (.inr (.inr f)))))) (hr : jx_rc m pc = some (.aaload, 1, x, y, vv)) (ht : 4 ≤ t ∧ t < 8) (hi : ¬ (i < 0) ∧ i.toNatClampNeg < n) (k : jx_T m (pc + 1) ls (va_rf (f i.toNatClampNeg) :: st) (hc W g nx s) v h2) : jx_T m pc ls (.int i :: .ref a :: st) (hc W g nx s) v h2 := jx_T.aald hr ((hc_out ha).trans hg) ht hi k
theorem cl.aleni {a : Nat} (ha : 35 ≤ a) {x y t n : Nat} {vv : Value} {c : (Nat → Int32) ⊕ (Nat → Int64) ⊕ (Nat → UInt32) ⊕ (Nat → UInt64) ⊕ (Nat → Option Nat)} (hg : g a = some (.inl (t, n, c))) (hr : jx_rc m pc = some (.arraylength, 1, x, y, vv)) (ht : t < 8 ∨ t = 98) (k : jx_T m (pc + 1) ls (.int (nI n) :: st) (hc W g nx s) v h2) : jx_T m pc ls (.ref a :: st) (hc W g nx s) v h2 := jx_T.alen hr ((hc_out ha).trans hg) ht k
theorem cl.alen (a : Nat) (ha : 1 ≤ a ∧ a < 35) {x y t n : Nat} {vv : Value} {c : (Nat → Int32) ⊕ (Nat → Int64) ⊕ (Nat → UInt32) ⊕ (Nat → UInt64) ⊕ (Nat → Option Nat)} (hr : jx_rc m pc = some (.arraylength, 1, x, y, vv)) (he : (cw_list W)[a - 1]? = some (.inl (t, n, c))) (ht : t < 8 ∨ t = 98) (k : jx_T m (pc + 1) ls (.int (nI n) :: st) (hc W g nx s) v h2) : jx_T m pc ls (.ref a :: st) (hc W g nx s) v h2 := jx_T.alen hr ((hc_in ha).trans he) ht k
theorem cl.iast (a : Nat) (ha : 1 ≤ a ∧ a < 35) {x y n : Nat} {vv : Value} {f : Nat → Int32} {i w : Int32} (hr : jx_rc m pc = some (.iastore, 1, x, y, vv)) (he : (cw_list W)[a - 1]? = some (.inl (0, n, .inl f))) (hs : ∀ f, (cw_list W).set (a - 1) (.inl (0, n, .inl f)) = cw_list (cw_A W a f)) (hi : ¬ (i < 0) ∧ i.toNatClampNeg < n) (k : jx_T m (pc + 1) ls st (hc (cw_A W a (upd f i.toNatClampNeg w)) g nx s) v h2) : jx_T m pc ls (.int w :: .int i :: .ref a :: st) (hc W g nx s) v h2 := jx_T.iast hr ((hc_in ha).trans he) hi (by rw [hc_set ha (hs _)]; exact k)
theorem cl.last (a : Nat) (ha : 1 ≤ a ∧ a < 35) {x y n : Nat} {vv : Value} {f : Nat → Int64} {i : Int32} {w : Int64} (hr : jx_rc m pc = some (.lastore, 1, x, y, vv)) (he : (cw_list W)[a - 1]? = some (.inl (1, n, .inr (.inl f)))) (hs : ∀ f, (cw_list W).set (a - 1) (.inl (1, n, .inr (.inl f))) = cw_list (cw_B W a f)) (hi : ¬ (i < 0) ∧ i.toNatClampNeg < n) (k : jx_T m (pc + 1) ls st (hc (cw_B W a (vp_updL f i.toNatClampNeg w)) g nx s) v h2) : jx_T m pc ls (.long w :: .int i :: .ref a :: st) (hc W g nx s) v h2 := jx_T.last hr ((hc_in ha).trans he) hi (by rw [hc_set ha (hs _)]; exact k)
theorem cl.zast (a : Nat) (ha : 1 ≤ a ∧ a < 35) {x y n : Nat} {vv : Value} {f : Nat → Int32} {i w : Int32} (hr : jx_rc m pc = some (.bastore, 1, x, y, vv)) (he : (cw_list W)[a - 1]? = some (.inl (3, n, .inl f))) (hs : ∀ f, (cw_list W).set (a - 1) (.inl (3, n, .inl f)) = cw_list (cw_A W a f)) (hi : ¬ (i < 0) ∧ i.toNatClampNeg < n) (k : jx_T m (pc + 1) ls st (hc (cw_A W a (upd f i.toNatClampNeg (vp_nar .boolean w))) g nx s) v h2) : jx_T m pc ls (.int w :: .int i :: .ref a :: st) (hc W g nx s) v h2 := jx_T.zast hr ((hc_in ha).trans he) hi (by rw [hc_set ha (hs _)]; exact k)
theorem cl.bast (a : Nat) (ha : 1 ≤ a ∧ a < 35) {x y n : Nat} {vv : Value} {f : Nat → Int32} {i w : Int32} (hr : jx_rc m pc = some (.bastore, 1, x, y, vv)) (he : (cw_list W)[a - 1]? = some (.inl (2, n, .inl f))) (hs : ∀ f, (cw_list W).set (a - 1) (.inl (2, n, .inl f)) = cw_list (cw_A W a f)) (hi : ¬ (i < 0) ∧ i.toNatClampNeg < n) (k : jx_T m (pc + 1) ls st (hc (cw_A W a (upd f i.toNatClampNeg (vp_nar .byte w))) g nx s) v h2) : jx_T m pc ls (.int w :: .int i :: .ref a :: st) (hc W g nx s) v h2 := jx_T.bast hr ((hc_in ha).trans he) hi (by rw [hc_set ha (hs _)]; exact k)
theorem cl.br {c : ClassFile.Cond} {o : Int} {len x y : Nat} {vv : Value} {a : Int32} (hr : jx_rc m pc = some (.ifCond c o, len, x, y, vv)) {P : Prop} [Decidable P] (hc : ∀ (α : Type) (s t : α), jx_br c a 0 s t = if P then s else t) (kt : P → jx_T m x ls st h v h2) (kf : ¬ P → jx_T m (pc + 3) ls st h v h2) : jx_T m pc ls (.int a :: st) h v h2 := by
  by_cases hp : P
  · exact jx_T.if_t hr (fun α s t => by rw [hc, if_pos hp]) (kt hp)
  · exact jx_T.if_f hr (fun α s t => by rw [hc, if_neg hp]) (kf hp)
theorem cl.bc {c : ClassFile.Cond} {o : Int} {len x y : Nat} {vv : Value} {a b : Int32} (hr : jx_rc m pc = some (.if_icmp c o, len, x, y, vv)) {P : Prop} [Decidable P] (hc : ∀ (α : Type) (s t : α), jx_br c a b s t = if P then s else t) (kt : P → jx_T m x ls st h v h2) (kf : ¬ P → jx_T m (pc + 3) ls st h v h2) : jx_T m pc ls (.int b :: .int a :: st) h v h2 := by
  by_cases hp : P
  · exact jx_T.ic_t hr (fun α s t => by rw [hc, if_pos hp]) (kt hp)
  · exact jx_T.ic_f hr (fun α s t => by rw [hc, if_neg hp]) (kf hp)
theorem cl.brn {o : Int} {len x y : Nat} {vv : Value} {a : Int32} (hr : jx_rc m pc = some (.ifCond .ne o, len, x, y, vv)) (kt : ¬ a = 0 → jx_T m x ls st h v h2) (kf : a = 0 → jx_T m (pc + 3) ls st h v h2) : jx_T m pc ls (.int a :: st) h v h2 := by
  by_cases hp : a = 0
  · exact jx_T.if_f hr (fun α s t => by simp [jx_br, hp]) (kf hp)
  · exact jx_T.if_t hr (fun α s t => by simp [jx_br, hp]) (kt hp)
theorem cl.bcn {o : Int} {len x y : Nat} {vv : Value} {a b : Int32} (hr : jx_rc m pc = some (.if_icmp .ne o, len, x, y, vv)) (kt : ¬ a = b → jx_T m x ls st h v h2) (kf : a = b → jx_T m (pc + 3) ls st h v h2) : jx_T m pc ls (.int b :: .int a :: st) h v h2 := by
  by_cases hp : a = b
  · exact jx_T.ic_f hr (fun α s t => by simp [jx_br, hp]) (kf hp)
  · exact jx_T.ic_t hr (fun α s t => by simp [jx_br, hp]) (kt hp)
theorem cl.irem {x y : Nat} {vv : Value} {a b : Int32} (hr : jx_rc m pc = some (.irem, 1, x, y, vv)) (hb : ¬ b = 0) (k : jx_T m (pc + 1) ls (.int (a - a / b * b) :: st) h v h2) : jx_T m pc ls (.int b :: .int a :: st) h v h2 := by
  refine jx_T.step hr ?_ k
  simp only [jx_act, if_neg hb, jx_go]
theorem cl.idiv {x y : Nat} {vv : Value} {a b : Int32} (hr : jx_rc m pc = some (.idiv, 1, x, y, vv)) (hb : ¬ b = 0) (k : jx_T m (pc + 1) ls (.int (a / b) :: st) h v h2) : jx_T m pc ls (.int b :: .int a :: st) h v h2 := by
  refine jx_T.step hr ?_ k
  simp only [jx_act, if_neg hb, jx_go]
theorem cl.ldiv {x y : Nat} {vv : Value} {a b : Int64} (hr : jx_rc m pc = some (.ldiv, 1, x, y, vv)) (hb : ¬ b = 0) (k : jx_T m (pc + 1) ls (.long (a / b) :: st) h v h2) : jx_T m pc ls (.long b :: .long a :: st) h v h2 := by
  refine jx_T.step hr ?_ k
  simp only [jx_act, if_neg hb, jx_go]
theorem hc_fix (a : Nat) (ha : 1 ≤ a ∧ a < 35) {e : jx_E} (he : (cw_list W)[a - 1]? = some e) : (hc W g nx s).2.2 a = some e := (hc_in ha).trans he
theorem hc_imm {a : Nat} (ha : 35 ≤ a) {e : jx_E} (hg : g a = some e) : (hc W g nx s).2.2 a = some e := (hc_out ha).trans hg
theorem cl.v0I {n len x y a c : Nat} {w : Value} {k0 : Int32} {rest fs : List Value} {h1 : jx_H} (he : h.2.2 a = some (.inr (c, fs))) (hr : jx_rc m pc = some (.invokevirtual n, len, x, y, .int k0)) (hx : ¬ x = 5) (hk : k0 = 0) (hc : jx_cat rest ≤ 8 ∧ c = (jx_mi y).2.2.2.2.1) (hl : (jx_args [.ref a]).length ≤ (jx_mi y).2.2.1) (hM : jx_T y 0 (jx_ent y [.ref a]) [] h (some w) h1) (k : jx_T m (pc + 3) ls (w :: rest) h1 v h2) : jx_T m pc ls (.ref a :: rest) h v h2 := by
  subst hk
  exact jx_T.virt hr hx rfl he hc rfl hl hM k
theorem cl.v0V {n len x y a c : Nat} {k0 : Int32} {rest fs : List Value} {h1 : jx_H} (he : h.2.2 a = some (.inr (c, fs))) (hr : jx_rc m pc = some (.invokevirtual n, len, x, y, .int k0)) (hx : ¬ x = 5) (hk : k0 = 0) (hc : jx_cat rest ≤ 8 ∧ c = (jx_mi y).2.2.2.2.1) (hl : (jx_args [.ref a]).length ≤ (jx_mi y).2.2.1) (hM : jx_T y 0 (jx_ent y [.ref a]) [] h none h1) (k : jx_T m (pc + 3) ls rest h1 v h2) : jx_T m pc ls (.ref a :: rest) h v h2 := by
  subst hk
  exact jx_T.virt hr hx rfl he hc rfl hl hM k
theorem cl.s0I {n len x y : Nat} {w : Value} {k0 : Int32} {rest : List Value} {h1 : jx_H} (hr : jx_rc m pc = some (.invokestatic n, len, x, y, .int k0)) (hx : ¬ x = 6) (hk : k0 = 0) (hc : jx_cat rest ≤ 8) (hl : (jx_args []).length ≤ (jx_mi y).2.2.1) (hM : jx_T y 0 (jx_ent y []) [] h (some w) h1) (k : jx_T m (pc + 3) ls (w :: rest) h1 v h2) : jx_T m pc ls (rest) h v h2 := by
  subst hk
  exact jx_T.stat hr hx ⟨hc, Nat.le_of_ble_eq_true rfl⟩ rfl rfl hl hM k
theorem cl.v1I {n len x y a c : Nat} {a1 : Value} {w : Value} {k0 : Int32} {rest fs : List Value} {h1 : jx_H} (he : h.2.2 a = some (.inr (c, fs))) (hr : jx_rc m pc = some (.invokevirtual n, len, x, y, .int k0)) (hx : ¬ x = 5) (hk : k0 = 1) (hc : jx_cat rest ≤ 8 ∧ c = (jx_mi y).2.2.2.2.1) (hl : (jx_args [.ref a, a1]).length ≤ (jx_mi y).2.2.1) (hM : jx_T y 0 (jx_ent y [.ref a, a1]) [] h (some w) h1) (k : jx_T m (pc + 3) ls (w :: rest) h1 v h2) : jx_T m pc ls (a1 :: .ref a :: rest) h v h2 := by
  subst hk
  exact jx_T.virt hr hx rfl he hc rfl hl hM k
theorem cl.v1V {n len x y a c : Nat} {a1 : Value} {k0 : Int32} {rest fs : List Value} {h1 : jx_H} (he : h.2.2 a = some (.inr (c, fs))) (hr : jx_rc m pc = some (.invokevirtual n, len, x, y, .int k0)) (hx : ¬ x = 5) (hk : k0 = 1) (hc : jx_cat rest ≤ 8 ∧ c = (jx_mi y).2.2.2.2.1) (hl : (jx_args [.ref a, a1]).length ≤ (jx_mi y).2.2.1) (hM : jx_T y 0 (jx_ent y [.ref a, a1]) [] h none h1) (k : jx_T m (pc + 3) ls rest h1 v h2) : jx_T m pc ls (a1 :: .ref a :: rest) h v h2 := by
  subst hk
  exact jx_T.virt hr hx rfl he hc rfl hl hM k
theorem cl.s1I {n len x y : Nat} {a1 : Value} {w : Value} {k0 : Int32} {rest : List Value} {h1 : jx_H} (hr : jx_rc m pc = some (.invokestatic n, len, x, y, .int k0)) (hx : ¬ x = 6) (hk : k0 = 1) (hc : jx_cat rest ≤ 8) (hl : (jx_args [a1]).length ≤ (jx_mi y).2.2.1) (hM : jx_T y 0 (jx_ent y [a1]) [] h (some w) h1) (k : jx_T m (pc + 3) ls (w :: rest) h1 v h2) : jx_T m pc ls (a1 :: rest) h v h2 := by
  subst hk
  exact jx_T.stat hr hx ⟨hc, Nat.le_of_ble_eq_true rfl⟩ rfl rfl hl hM k
theorem cl.v2I {n len x y a c : Nat} {a1 a2 : Value} {w : Value} {k0 : Int32} {rest fs : List Value} {h1 : jx_H} (he : h.2.2 a = some (.inr (c, fs))) (hr : jx_rc m pc = some (.invokevirtual n, len, x, y, .int k0)) (hx : ¬ x = 5) (hk : k0 = 2) (hc : jx_cat rest ≤ 8 ∧ c = (jx_mi y).2.2.2.2.1) (hl : (jx_args [.ref a, a1, a2]).length ≤ (jx_mi y).2.2.1) (hM : jx_T y 0 (jx_ent y [.ref a, a1, a2]) [] h (some w) h1) (k : jx_T m (pc + 3) ls (w :: rest) h1 v h2) : jx_T m pc ls (a2 :: a1 :: .ref a :: rest) h v h2 := by
  subst hk
  exact jx_T.virt hr hx rfl he hc rfl hl hM k
theorem cl.v2V {n len x y a c : Nat} {a1 a2 : Value} {k0 : Int32} {rest fs : List Value} {h1 : jx_H} (he : h.2.2 a = some (.inr (c, fs))) (hr : jx_rc m pc = some (.invokevirtual n, len, x, y, .int k0)) (hx : ¬ x = 5) (hk : k0 = 2) (hc : jx_cat rest ≤ 8 ∧ c = (jx_mi y).2.2.2.2.1) (hl : (jx_args [.ref a, a1, a2]).length ≤ (jx_mi y).2.2.1) (hM : jx_T y 0 (jx_ent y [.ref a, a1, a2]) [] h none h1) (k : jx_T m (pc + 3) ls rest h1 v h2) : jx_T m pc ls (a2 :: a1 :: .ref a :: rest) h v h2 := by
  subst hk
  exact jx_T.virt hr hx rfl he hc rfl hl hM k
theorem cl.s2I {n len x y : Nat} {a1 a2 : Value} {w : Value} {k0 : Int32} {rest : List Value} {h1 : jx_H} (hr : jx_rc m pc = some (.invokestatic n, len, x, y, .int k0)) (hx : ¬ x = 6) (hk : k0 = 2) (hc : jx_cat rest ≤ 8) (hl : (jx_args [a1, a2]).length ≤ (jx_mi y).2.2.1) (hM : jx_T y 0 (jx_ent y [a1, a2]) [] h (some w) h1) (k : jx_T m (pc + 3) ls (w :: rest) h1 v h2) : jx_T m pc ls (a2 :: a1 :: rest) h v h2 := by
  subst hk
  exact jx_T.stat hr hx ⟨hc, Nat.le_of_ble_eq_true rfl⟩ rfl rfl hl hM k
theorem cl.v3I {n len x y a c : Nat} {a1 a2 a3 : Value} {w : Value} {k0 : Int32} {rest fs : List Value} {h1 : jx_H} (he : h.2.2 a = some (.inr (c, fs))) (hr : jx_rc m pc = some (.invokevirtual n, len, x, y, .int k0)) (hx : ¬ x = 5) (hk : k0 = 3) (hc : jx_cat rest ≤ 8 ∧ c = (jx_mi y).2.2.2.2.1) (hl : (jx_args [.ref a, a1, a2, a3]).length ≤ (jx_mi y).2.2.1) (hM : jx_T y 0 (jx_ent y [.ref a, a1, a2, a3]) [] h (some w) h1) (k : jx_T m (pc + 3) ls (w :: rest) h1 v h2) : jx_T m pc ls (a3 :: a2 :: a1 :: .ref a :: rest) h v h2 := by
  subst hk
  exact jx_T.virt hr hx rfl he hc rfl hl hM k
theorem cl.v3V {n len x y a c : Nat} {a1 a2 a3 : Value} {k0 : Int32} {rest fs : List Value} {h1 : jx_H} (he : h.2.2 a = some (.inr (c, fs))) (hr : jx_rc m pc = some (.invokevirtual n, len, x, y, .int k0)) (hx : ¬ x = 5) (hk : k0 = 3) (hc : jx_cat rest ≤ 8 ∧ c = (jx_mi y).2.2.2.2.1) (hl : (jx_args [.ref a, a1, a2, a3]).length ≤ (jx_mi y).2.2.1) (hM : jx_T y 0 (jx_ent y [.ref a, a1, a2, a3]) [] h none h1) (k : jx_T m (pc + 3) ls rest h1 v h2) : jx_T m pc ls (a3 :: a2 :: a1 :: .ref a :: rest) h v h2 := by
  subst hk
  exact jx_T.virt hr hx rfl he hc rfl hl hM k
theorem cl.s3I {n len x y : Nat} {a1 a2 a3 : Value} {w : Value} {k0 : Int32} {rest : List Value} {h1 : jx_H} (hr : jx_rc m pc = some (.invokestatic n, len, x, y, .int k0)) (hx : ¬ x = 6) (hk : k0 = 3) (hc : jx_cat rest ≤ 8) (hl : (jx_args [a1, a2, a3]).length ≤ (jx_mi y).2.2.1) (hM : jx_T y 0 (jx_ent y [a1, a2, a3]) [] h (some w) h1) (k : jx_T m (pc + 3) ls (w :: rest) h1 v h2) : jx_T m pc ls (a3 :: a2 :: a1 :: rest) h v h2 := by
  subst hk
  exact jx_T.stat hr hx ⟨hc, Nat.le_of_ble_eq_true rfl⟩ rfl rfl hl hM k
theorem cl.v4I {n len x y a c : Nat} {a1 a2 a3 a4 : Value} {w : Value} {k0 : Int32} {rest fs : List Value} {h1 : jx_H} (he : h.2.2 a = some (.inr (c, fs))) (hr : jx_rc m pc = some (.invokevirtual n, len, x, y, .int k0)) (hx : ¬ x = 5) (hk : k0 = 4) (hc : jx_cat rest ≤ 8 ∧ c = (jx_mi y).2.2.2.2.1) (hl : (jx_args [.ref a, a1, a2, a3, a4]).length ≤ (jx_mi y).2.2.1) (hM : jx_T y 0 (jx_ent y [.ref a, a1, a2, a3, a4]) [] h (some w) h1) (k : jx_T m (pc + 3) ls (w :: rest) h1 v h2) : jx_T m pc ls (a4 :: a3 :: a2 :: a1 :: .ref a :: rest) h v h2 := by
  subst hk
  exact jx_T.virt hr hx rfl he hc rfl hl hM k
theorem cl.v4V {n len x y a c : Nat} {a1 a2 a3 a4 : Value} {k0 : Int32} {rest fs : List Value} {h1 : jx_H} (he : h.2.2 a = some (.inr (c, fs))) (hr : jx_rc m pc = some (.invokevirtual n, len, x, y, .int k0)) (hx : ¬ x = 5) (hk : k0 = 4) (hc : jx_cat rest ≤ 8 ∧ c = (jx_mi y).2.2.2.2.1) (hl : (jx_args [.ref a, a1, a2, a3, a4]).length ≤ (jx_mi y).2.2.1) (hM : jx_T y 0 (jx_ent y [.ref a, a1, a2, a3, a4]) [] h none h1) (k : jx_T m (pc + 3) ls rest h1 v h2) : jx_T m pc ls (a4 :: a3 :: a2 :: a1 :: .ref a :: rest) h v h2 := by
  subst hk
  exact jx_T.virt hr hx rfl he hc rfl hl hM k
theorem cl.v5I {n len x y a c : Nat} {a1 a2 a3 a4 a5 : Value} {w : Value} {k0 : Int32} {rest fs : List Value} {h1 : jx_H} (he : h.2.2 a = some (.inr (c, fs))) (hr : jx_rc m pc = some (.invokevirtual n, len, x, y, .int k0)) (hx : ¬ x = 5) (hk : k0 = 5) (hc : jx_cat rest ≤ 8 ∧ c = (jx_mi y).2.2.2.2.1) (hl : (jx_args [.ref a, a1, a2, a3, a4, a5]).length ≤ (jx_mi y).2.2.1) (hM : jx_T y 0 (jx_ent y [.ref a, a1, a2, a3, a4, a5]) [] h (some w) h1) (k : jx_T m (pc + 3) ls (w :: rest) h1 v h2) : jx_T m pc ls (a5 :: a4 :: a3 :: a2 :: a1 :: .ref a :: rest) h v h2 := by
  subst hk
  exact jx_T.virt hr hx rfl he hc rfl hl hM k
theorem cl.v5V {n len x y a c : Nat} {a1 a2 a3 a4 a5 : Value} {k0 : Int32} {rest fs : List Value} {h1 : jx_H} (he : h.2.2 a = some (.inr (c, fs))) (hr : jx_rc m pc = some (.invokevirtual n, len, x, y, .int k0)) (hx : ¬ x = 5) (hk : k0 = 5) (hc : jx_cat rest ≤ 8 ∧ c = (jx_mi y).2.2.2.2.1) (hl : (jx_args [.ref a, a1, a2, a3, a4, a5]).length ≤ (jx_mi y).2.2.1) (hM : jx_T y 0 (jx_ent y [.ref a, a1, a2, a3, a4, a5]) [] h none h1) (k : jx_T m (pc + 3) ls rest h1 v h2) : jx_T m pc ls (a5 :: a4 :: a3 :: a2 :: a1 :: .ref a :: rest) h v h2 := by
  subst hk
  exact jx_T.virt hr hx rfl he hc rfl hl hM k
end CLR
