/-! ONE STATE FOR ALL CELLS: ints and booleans of objects, longs of objects, arrays, arrays of longs, arrays of arrays (by the numbers of those; the rows are the arrays 67 and on) -/
abbrev TS : Type := (Nat → Int32) × (Nat → Int64) × (Nat → Nat → Int32) × (Nat → Nat → Int64) × (Nat → Nat → Nat)
def gI (T : TS) (k : Nat) : Int32 := T.1 k
def gJ (T : TS) (k : Nat) : Int64 := T.2.1 k
def gA (T : TS) (k : Nat) : Nat → Int32 := T.2.2.1 k
def gL (T : TS) (k : Nat) : Nat → Int64 := T.2.2.2.1 k
def gO (T : TS) (k : Nat) : Nat → Nat := T.2.2.2.2 k
def uI (T : TS) (k : Nat) (v : Int32) : TS := (va_up T.1 k v, T.2)
def uJ (T : TS) (k : Nat) (v : Int64) : TS := (T.1, va_up T.2.1 k v, T.2.2)
def uA (T : TS) (k : Nat) (f : Nat → Int32) : TS := (T.1, T.2.1, va_up T.2.2.1 k f, T.2.2.2)
def uL (T : TS) (k : Nat) (f : Nat → Int64) : TS := (T.1, T.2.1, T.2.2.1, va_up T.2.2.2.1 k f, T.2.2.2.2)
def uO (T : TS) (k : Nat) (f : Nat → Nat) : TS := (T.1, T.2.1, T.2.2.1, T.2.2.2.1, va_up T.2.2.2.2 k f)
/-- a store into an array, by its number -/
def sA (T : TS) (k : Nat) (i x : Int32) : TS := uA T k (upd (gA T k) i.toNatClampNeg x)
def sZ (T : TS) (k : Nat) (i x : Int32) : TS := uA T k (upd (gA T k) i.toNatClampNeg (vp_nar .boolean x))
def sL (T : TS) (k : Nat) (i : Int32) (x : Int64) : TS := uL T k (vp_updL (gL T k) i.toNatClampNeg x)
def sO (T : TS) (k : Nat) (i : Int32) (j : Nat) : TS := uO T k (va_up (gO T k) i.toNatClampNeg j)
/-! the context of a run: what may change, the classes' numbers, the arrays' classes, the addresses, further cells -/
abbrev XT : Type := (Nat → Prop) × va_G × (ClassId × ClassId × ClassId × ClassId) × (Nat → Nat) × va_W
def xA (X : XT) : Nat → Prop := X.1
def xD (X : XT) : va_G := X.2.1
def xI (X : XT) : ClassId := X.2.2.1.1
def xJ (X : XT) : ClassId := X.2.2.1.2.1
def xZ (X : XT) : ClassId := X.2.2.1.2.2.1
def xO (X : XT) : ClassId := X.2.2.1.2.2.2
def ad (X : XT) (k : Nat) : Nat := X.2.2.2.1 k
def xz (X : XT) : va_W := X.2.2.2.2
abbrev rN : Nat := 3436
/-- arrays that a method may get by their numbers: the rows, and the reference's c; how long they are -/
def al (q : Nat) : Nat := if q < 3247 then 6 else 9
def isA (q : Nat) : Prop := q = 55 ∨ (67 ≤ q ∧ q < 67 + rN)
theorem isA_row {j : Nat} (h : j < rN) : isA (67 + j) := Or.inr ⟨by omega, by omega⟩
def wsE (X : XT) (T : TS) : va_W := [(ad X 0, .inr (9, [.ref (ad X 1), .ref (ad X 4), .ref (ad X 6), .ref (ad X 11), .ref (ad X 14), .ref (ad X 17), .ref (ad X 20), .ref (ad X 22), .ref (ad X 24), .ref (ad X 26), .ref (ad X 30), .ref (ad X 36), .ref (ad X 40), .int (gI T 13), .int (gI T 14)])),
  (ad X 1, .inr (3, [.int (gI T 50), .int (gI T 51), .int (gI T 52), .int (gI T 53), .int (gI T 54), .int (gI T 55), .ref (ad X 2), .ref (ad X 3)])),
  (ad X 2, .inl (xI X, 6, .inl (gA T 2))),
  (ad X 3, .inl (xI X, 6, .inl (gA T 3))),
  (ad X 4, .inr (4, [.ref (ad X 1), .ref (ad X 5), .int (gI T 202), .int (gI T 203), .int (gI T 204)])),
  (ad X 5, .inl (xI X, 3000, .inl (gA T 5))),
  (ad X 6, .inr (5, [.ref (ad X 1), .ref (ad X 7), .ref (ad X 8), .ref (ad X 9), .ref (ad X 10), .int (gI T 305)])),
  (ad X 7, .inl (xI X, 6, .inl (gA T 7))),
  (ad X 8, .inl (xI X, 6, .inl (gA T 8))),
  (ad X 9, .inl (xI X, 6, .inl (gA T 9))),
  (ad X 10, .inl (xI X, 6, .inl (gA T 10))),
  (ad X 11, .inr (7, [.int (gI T 550), .ref (ad X 12), .ref (ad X 13)])),
  (ad X 12, .inl (xI X, 60, .inl (gA T 12))),
  (ad X 13, .inl (xI X, 60, .inl (gA T 13))),
  (ad X 14, .inr (7, [.int (gI T 700), .ref (ad X 15), .ref (ad X 16)])),
  (ad X 15, .inl (xI X, 60, .inl (gA T 15))),
  (ad X 16, .inl (xI X, 60, .inl (gA T 16))),
  (ad X 17, .inr (7, [.int (gI T 850), .ref (ad X 18), .ref (ad X 19)])),
  (ad X 18, .inl (xI X, 60, .inl (gA T 18))),
  (ad X 19, .inl (xI X, 60, .inl (gA T 19))),
  (ad X 20, .inr (0, [.int (gI T 1000), .ref (ad X 21)])),
  (ad X 21, .inl (xI X, 21, .inl (gA T 21))),
  (ad X 22, .inr (0, [.int (gI T 1100), .ref (ad X 23)])),
  (ad X 23, .inl (xI X, 21, .inl (gA T 23))),
  (ad X 24, .inr (0, [.int (gI T 1200), .ref (ad X 25)])),
  (ad X 25, .inl (xI X, 21, .inl (gA T 25))),
  (ad X 26, .inr (2, [.int (gI T 1300), .ref (ad X 27), .ref (ad X 28), .ref (ad X 29)])),
  (ad X 27, .inl (xI X, 72, .inl (gA T 27))),
  (ad X 28, .inl (xI X, 2304, .inl (gA T 28))),
  (ad X 29, .inl (xI X, 8, .inl (gA T 29))),
  (ad X 30, .inr (6, [.ref (ad X 1), .ref (ad X 31), .ref (ad X 32), .ref (ad X 33), .ref (ad X 34), .ref (ad X 35), .int (gI T 1506), .int (gI T 1507), .int (gI T 1508)])),
  (ad X 31, .inl (xI X, 6, .inl (gA T 31))),
  (ad X 32, .inl (xI X, 6, .inl (gA T 32))),
  (ad X 33, .inl (xI X, 6, .inl (gA T 33))),
  (ad X 34, .inl (xI X, 5000, .inl (gA T 34))),
  (ad X 35, .inl (xI X, 3000, .inl (gA T 35))),
  (ad X 36, .inr (8, [.int (gI T 1800), .ref (ad X 37), .ref (ad X 38), .ref (ad X 39)])),
  (ad X 37, .inl (xI X, 8, .inl (gA T 37))),
  (ad X 38, .inl (xI X, 8, .inl (gA T 38))),
  (ad X 39, .inl (xZ X, 8, .inl (gA T 39))),
  (ad X 40, .inr (1, [.long (gJ T 0), .long (gJ T 1), .long (gJ T 2), .long (gJ T 3), .long (gJ T 4), .long (gJ T 5)])),
  (ad X 41, .inr (10, [.int (gI T 2050), .int (gI T 2051), .int (gI T 2052), .int (gI T 2053), .int (gI T 2054), .int (gI T 2055), .int (gI T 2056), .ref (ad X 42), .ref (ad X 43), .ref (ad X 44), .ref (ad X 45), .int (gI T 2061), .int (gI T 2062), .int (gI T 2063), .int (gI T 2064), .ref (ad X 46), .ref (ad X 47), .int (gI T 2067), .ref (ad X 48), .ref (ad X 49), .int (gI T 2070), .ref (ad X 50), .ref (ad X 51), .int (gI T 2073), .int (gI T 2074), .int (gI T 2075), .ref (ad X 52), .ref (ad X 53), .ref (ad X 54), .ref (ad X 55), .ref (ad X 56), .ref (ad X 57), .ref (ad X 58), .int (gI T 2083), .ref (ad X 59), .ref (ad X 60), .ref (ad X 61), .int (gI T 2087), .ref (ad X 62), .ref (ad X 63), .ref (ad X 64), .ref (ad X 65)])),
  (ad X 42, .inl (xI X, 6, .inl (gA T 42))),
  (ad X 43, .inl (xI X, 6, .inl (gA T 43))),
  (ad X 44, .inl (xI X, 6, .inl (gA T 44))),
  (ad X 45, .inl (xI X, 6, .inl (gA T 45))),
  (ad X 46, .inl (xO X, 3000, .inr (.inr (.inr (.inr (fun i => some (ad X (gO T 46 i)))))))),
  (ad X 47, .inl (xI X, 6, .inl (gA T 47))),
  (ad X 48, .inl (xO X, 60, .inr (.inr (.inr (.inr (fun i => some (ad X (gO T 48 i)))))))),
  (ad X 49, .inl (xI X, 60, .inl (gA T 49))),
  (ad X 50, .inl (xO X, 60, .inr (.inr (.inr (.inr (fun i => some (ad X (gO T 50 i)))))))),
  (ad X 51, .inl (xI X, 60, .inl (gA T 51))),
  (ad X 52, .inl (xO X, 60, .inr (.inr (.inr (.inr (fun i => some (ad X (gO T 52 i)))))))),
  (ad X 53, .inl (xI X, 60, .inl (gA T 53))),
  (ad X 54, .inl (xI X, 6, .inl (gA T 54))),
  (ad X 55, .inl (xI X, 6, .inl (gA T 55))),
  (ad X 56, .inl (xI X, 5000, .inl (gA T 56))),
  (ad X 57, .inl (xI X, 6, .inl (gA T 57))),
  (ad X 58, .inl (xI X, 21, .inl (gA T 58))),
  (ad X 59, .inl (xI X, 21, .inl (gA T 59))),
  (ad X 60, .inl (xI X, 21, .inl (gA T 60))),
  (ad X 61, .inl (xO X, 256, .inr (.inr (.inr (.inr (fun i => some (ad X (gO T 61 i)))))))),
  (ad X 62, .inl (xI X, 8, .inl (gA T 62))),
  (ad X 63, .inl (xI X, 8, .inl (gA T 63))),
  (ad X 64, .inl (xZ X, 8, .inl (gA T 64))),
  (ad X 65, .inl (xJ X, 7, .inr (.inl (gL T 65)))),
  (ad X 66, .inl (xJ X, 1, .inr (.inl (gL T 66))))]
def wsR (X : XT) (T : TS) : va_W := (List.range rN).map (fun j => (ad X (67 + j), .inl (xI X, al (67 + j), .inl (gA T (67 + j)))))
def wsT (X : XT) (T : TS) : va_W := wsE X T ++ (wsR X T ++ xz X)
theorem wE_0 (X : XT) (T : TS) : (wsT X T)[0]? = some (ad X 0, .inr (9, [.ref (ad X 1), .ref (ad X 4), .ref (ad X 6), .ref (ad X 11), .ref (ad X 14), .ref (ad X 17), .ref (ad X 20), .ref (ad X 22), .ref (ad X 24), .ref (ad X 26), .ref (ad X 30), .ref (ad X 36), .ref (ad X 40), .int (gI T 13), .int (gI T 14)])) := rfl
theorem wE_1 (X : XT) (T : TS) : (wsT X T)[1]? = some (ad X 1, .inr (3, [.int (gI T 50), .int (gI T 51), .int (gI T 52), .int (gI T 53), .int (gI T 54), .int (gI T 55), .ref (ad X 2), .ref (ad X 3)])) := rfl
theorem wE_2 (X : XT) (T : TS) : (wsT X T)[2]? = some (ad X 2, .inl (xI X, 6, .inl (gA T 2))) := rfl
theorem wE_3 (X : XT) (T : TS) : (wsT X T)[3]? = some (ad X 3, .inl (xI X, 6, .inl (gA T 3))) := rfl
theorem wE_4 (X : XT) (T : TS) : (wsT X T)[4]? = some (ad X 4, .inr (4, [.ref (ad X 1), .ref (ad X 5), .int (gI T 202), .int (gI T 203), .int (gI T 204)])) := rfl
theorem wE_5 (X : XT) (T : TS) : (wsT X T)[5]? = some (ad X 5, .inl (xI X, 3000, .inl (gA T 5))) := rfl
theorem wE_6 (X : XT) (T : TS) : (wsT X T)[6]? = some (ad X 6, .inr (5, [.ref (ad X 1), .ref (ad X 7), .ref (ad X 8), .ref (ad X 9), .ref (ad X 10), .int (gI T 305)])) := rfl
theorem wE_7 (X : XT) (T : TS) : (wsT X T)[7]? = some (ad X 7, .inl (xI X, 6, .inl (gA T 7))) := rfl
theorem wE_8 (X : XT) (T : TS) : (wsT X T)[8]? = some (ad X 8, .inl (xI X, 6, .inl (gA T 8))) := rfl
theorem wE_9 (X : XT) (T : TS) : (wsT X T)[9]? = some (ad X 9, .inl (xI X, 6, .inl (gA T 9))) := rfl
theorem wE_10 (X : XT) (T : TS) : (wsT X T)[10]? = some (ad X 10, .inl (xI X, 6, .inl (gA T 10))) := rfl
theorem wE_11 (X : XT) (T : TS) : (wsT X T)[11]? = some (ad X 11, .inr (7, [.int (gI T 550), .ref (ad X 12), .ref (ad X 13)])) := rfl
theorem wE_12 (X : XT) (T : TS) : (wsT X T)[12]? = some (ad X 12, .inl (xI X, 60, .inl (gA T 12))) := rfl
theorem wE_13 (X : XT) (T : TS) : (wsT X T)[13]? = some (ad X 13, .inl (xI X, 60, .inl (gA T 13))) := rfl
theorem wE_14 (X : XT) (T : TS) : (wsT X T)[14]? = some (ad X 14, .inr (7, [.int (gI T 700), .ref (ad X 15), .ref (ad X 16)])) := rfl
theorem wE_15 (X : XT) (T : TS) : (wsT X T)[15]? = some (ad X 15, .inl (xI X, 60, .inl (gA T 15))) := rfl
theorem wE_16 (X : XT) (T : TS) : (wsT X T)[16]? = some (ad X 16, .inl (xI X, 60, .inl (gA T 16))) := rfl
theorem wE_17 (X : XT) (T : TS) : (wsT X T)[17]? = some (ad X 17, .inr (7, [.int (gI T 850), .ref (ad X 18), .ref (ad X 19)])) := rfl
theorem wE_18 (X : XT) (T : TS) : (wsT X T)[18]? = some (ad X 18, .inl (xI X, 60, .inl (gA T 18))) := rfl
theorem wE_19 (X : XT) (T : TS) : (wsT X T)[19]? = some (ad X 19, .inl (xI X, 60, .inl (gA T 19))) := rfl
theorem wE_20 (X : XT) (T : TS) : (wsT X T)[20]? = some (ad X 20, .inr (0, [.int (gI T 1000), .ref (ad X 21)])) := rfl
theorem wE_21 (X : XT) (T : TS) : (wsT X T)[21]? = some (ad X 21, .inl (xI X, 21, .inl (gA T 21))) := rfl
theorem wE_22 (X : XT) (T : TS) : (wsT X T)[22]? = some (ad X 22, .inr (0, [.int (gI T 1100), .ref (ad X 23)])) := rfl
theorem wE_23 (X : XT) (T : TS) : (wsT X T)[23]? = some (ad X 23, .inl (xI X, 21, .inl (gA T 23))) := rfl
theorem wE_24 (X : XT) (T : TS) : (wsT X T)[24]? = some (ad X 24, .inr (0, [.int (gI T 1200), .ref (ad X 25)])) := rfl
theorem wE_25 (X : XT) (T : TS) : (wsT X T)[25]? = some (ad X 25, .inl (xI X, 21, .inl (gA T 25))) := rfl
theorem wE_26 (X : XT) (T : TS) : (wsT X T)[26]? = some (ad X 26, .inr (2, [.int (gI T 1300), .ref (ad X 27), .ref (ad X 28), .ref (ad X 29)])) := rfl
theorem wE_27 (X : XT) (T : TS) : (wsT X T)[27]? = some (ad X 27, .inl (xI X, 72, .inl (gA T 27))) := rfl
theorem wE_28 (X : XT) (T : TS) : (wsT X T)[28]? = some (ad X 28, .inl (xI X, 2304, .inl (gA T 28))) := rfl
theorem wE_29 (X : XT) (T : TS) : (wsT X T)[29]? = some (ad X 29, .inl (xI X, 8, .inl (gA T 29))) := rfl
theorem wE_30 (X : XT) (T : TS) : (wsT X T)[30]? = some (ad X 30, .inr (6, [.ref (ad X 1), .ref (ad X 31), .ref (ad X 32), .ref (ad X 33), .ref (ad X 34), .ref (ad X 35), .int (gI T 1506), .int (gI T 1507), .int (gI T 1508)])) := rfl
theorem wE_31 (X : XT) (T : TS) : (wsT X T)[31]? = some (ad X 31, .inl (xI X, 6, .inl (gA T 31))) := rfl
theorem wE_32 (X : XT) (T : TS) : (wsT X T)[32]? = some (ad X 32, .inl (xI X, 6, .inl (gA T 32))) := rfl
theorem wE_33 (X : XT) (T : TS) : (wsT X T)[33]? = some (ad X 33, .inl (xI X, 6, .inl (gA T 33))) := rfl
theorem wE_34 (X : XT) (T : TS) : (wsT X T)[34]? = some (ad X 34, .inl (xI X, 5000, .inl (gA T 34))) := rfl
theorem wE_35 (X : XT) (T : TS) : (wsT X T)[35]? = some (ad X 35, .inl (xI X, 3000, .inl (gA T 35))) := rfl
theorem wE_36 (X : XT) (T : TS) : (wsT X T)[36]? = some (ad X 36, .inr (8, [.int (gI T 1800), .ref (ad X 37), .ref (ad X 38), .ref (ad X 39)])) := rfl
theorem wE_37 (X : XT) (T : TS) : (wsT X T)[37]? = some (ad X 37, .inl (xI X, 8, .inl (gA T 37))) := rfl
theorem wE_38 (X : XT) (T : TS) : (wsT X T)[38]? = some (ad X 38, .inl (xI X, 8, .inl (gA T 38))) := rfl
theorem wE_39 (X : XT) (T : TS) : (wsT X T)[39]? = some (ad X 39, .inl (xZ X, 8, .inl (gA T 39))) := rfl
theorem wE_40 (X : XT) (T : TS) : (wsT X T)[40]? = some (ad X 40, .inr (1, [.long (gJ T 0), .long (gJ T 1), .long (gJ T 2), .long (gJ T 3), .long (gJ T 4), .long (gJ T 5)])) := rfl
theorem wE_41 (X : XT) (T : TS) : (wsT X T)[41]? = some (ad X 41, .inr (10, [.int (gI T 2050), .int (gI T 2051), .int (gI T 2052), .int (gI T 2053), .int (gI T 2054), .int (gI T 2055), .int (gI T 2056), .ref (ad X 42), .ref (ad X 43), .ref (ad X 44), .ref (ad X 45), .int (gI T 2061), .int (gI T 2062), .int (gI T 2063), .int (gI T 2064), .ref (ad X 46), .ref (ad X 47), .int (gI T 2067), .ref (ad X 48), .ref (ad X 49), .int (gI T 2070), .ref (ad X 50), .ref (ad X 51), .int (gI T 2073), .int (gI T 2074), .int (gI T 2075), .ref (ad X 52), .ref (ad X 53), .ref (ad X 54), .ref (ad X 55), .ref (ad X 56), .ref (ad X 57), .ref (ad X 58), .int (gI T 2083), .ref (ad X 59), .ref (ad X 60), .ref (ad X 61), .int (gI T 2087), .ref (ad X 62), .ref (ad X 63), .ref (ad X 64), .ref (ad X 65)])) := rfl
theorem wE_42 (X : XT) (T : TS) : (wsT X T)[42]? = some (ad X 42, .inl (xI X, 6, .inl (gA T 42))) := rfl
theorem wE_43 (X : XT) (T : TS) : (wsT X T)[43]? = some (ad X 43, .inl (xI X, 6, .inl (gA T 43))) := rfl
theorem wE_44 (X : XT) (T : TS) : (wsT X T)[44]? = some (ad X 44, .inl (xI X, 6, .inl (gA T 44))) := rfl
theorem wE_45 (X : XT) (T : TS) : (wsT X T)[45]? = some (ad X 45, .inl (xI X, 6, .inl (gA T 45))) := rfl
theorem wE_46 (X : XT) (T : TS) : (wsT X T)[46]? = some (ad X 46, .inl (xO X, 3000, .inr (.inr (.inr (.inr (fun i => some (ad X (gO T 46 i)))))))) := rfl
theorem wE_47 (X : XT) (T : TS) : (wsT X T)[47]? = some (ad X 47, .inl (xI X, 6, .inl (gA T 47))) := rfl
theorem wE_48 (X : XT) (T : TS) : (wsT X T)[48]? = some (ad X 48, .inl (xO X, 60, .inr (.inr (.inr (.inr (fun i => some (ad X (gO T 48 i)))))))) := rfl
theorem wE_49 (X : XT) (T : TS) : (wsT X T)[49]? = some (ad X 49, .inl (xI X, 60, .inl (gA T 49))) := rfl
theorem wE_50 (X : XT) (T : TS) : (wsT X T)[50]? = some (ad X 50, .inl (xO X, 60, .inr (.inr (.inr (.inr (fun i => some (ad X (gO T 50 i)))))))) := rfl
theorem wE_51 (X : XT) (T : TS) : (wsT X T)[51]? = some (ad X 51, .inl (xI X, 60, .inl (gA T 51))) := rfl
theorem wE_52 (X : XT) (T : TS) : (wsT X T)[52]? = some (ad X 52, .inl (xO X, 60, .inr (.inr (.inr (.inr (fun i => some (ad X (gO T 52 i)))))))) := rfl
theorem wE_53 (X : XT) (T : TS) : (wsT X T)[53]? = some (ad X 53, .inl (xI X, 60, .inl (gA T 53))) := rfl
theorem wE_54 (X : XT) (T : TS) : (wsT X T)[54]? = some (ad X 54, .inl (xI X, 6, .inl (gA T 54))) := rfl
theorem wE_55 (X : XT) (T : TS) : (wsT X T)[55]? = some (ad X 55, .inl (xI X, 6, .inl (gA T 55))) := rfl
theorem wE_56 (X : XT) (T : TS) : (wsT X T)[56]? = some (ad X 56, .inl (xI X, 5000, .inl (gA T 56))) := rfl
theorem wE_57 (X : XT) (T : TS) : (wsT X T)[57]? = some (ad X 57, .inl (xI X, 6, .inl (gA T 57))) := rfl
theorem wE_58 (X : XT) (T : TS) : (wsT X T)[58]? = some (ad X 58, .inl (xI X, 21, .inl (gA T 58))) := rfl
theorem wE_59 (X : XT) (T : TS) : (wsT X T)[59]? = some (ad X 59, .inl (xI X, 21, .inl (gA T 59))) := rfl
theorem wE_60 (X : XT) (T : TS) : (wsT X T)[60]? = some (ad X 60, .inl (xI X, 21, .inl (gA T 60))) := rfl
theorem wE_61 (X : XT) (T : TS) : (wsT X T)[61]? = some (ad X 61, .inl (xO X, 256, .inr (.inr (.inr (.inr (fun i => some (ad X (gO T 61 i)))))))) := rfl
theorem wE_62 (X : XT) (T : TS) : (wsT X T)[62]? = some (ad X 62, .inl (xI X, 8, .inl (gA T 62))) := rfl
theorem wE_63 (X : XT) (T : TS) : (wsT X T)[63]? = some (ad X 63, .inl (xI X, 8, .inl (gA T 63))) := rfl
theorem wE_64 (X : XT) (T : TS) : (wsT X T)[64]? = some (ad X 64, .inl (xZ X, 8, .inl (gA T 64))) := rfl
theorem wE_65 (X : XT) (T : TS) : (wsT X T)[65]? = some (ad X 65, .inl (xJ X, 7, .inr (.inl (gL T 65)))) := rfl
theorem wE_66 (X : XT) (T : TS) : (wsT X T)[66]? = some (ad X 66, .inl (xJ X, 1, .inr (.inl (gL T 66)))) := rfl
theorem wsE_len (X : XT) (T : TS) : (wsE X T).length = 67 := rfl
theorem wsR_len (X : XT) (T : TS) : (wsR X T).length = rN := by unfold wsR; rw [List.length_map, List.length_range]
theorem wsR_lo (X : XT) (T : TS) {c : Nat} (h : c < 67) (f : Nat → Int32) : wsR X (uA T c f) = wsR X T := by
  unfold wsR
  apply List.map_congr_left
  intro j _
  have : ¬ (67 + j = c) := by omega
  simp [gA, uA, va_up, this]
theorem wS_of {X : XT} {T : TS} {c : Nat} {x : Nat × va_E} (f : Nat → Int32) (hc : c < 67) (he : (wsE X T).set c x = wsE X (uA T c f)) : (wsT X T).set c x = wsT X (uA T c f) := by
  unfold wsT
  rw [List.set_append_left _ _ (by rw [wsE_len]; exact hc), he, wsR_lo X T hc]
theorem wP_0_13 (X : XT) (T : TS) (v : Int32) : (wsT X T).set 0 (ad X 0, .inr (9, ([.ref (ad X 1), .ref (ad X 4), .ref (ad X 6), .ref (ad X 11), .ref (ad X 14), .ref (ad X 17), .ref (ad X 20), .ref (ad X 22), .ref (ad X 24), .ref (ad X 26), .ref (ad X 30), .ref (ad X 36), .ref (ad X 40), .int (gI T 13), .int (gI T 14)] : List Value).set 13 (.int v))) = wsT X (uI T 13 v) := rfl
theorem wP_0_14 (X : XT) (T : TS) (v : Int32) : (wsT X T).set 0 (ad X 0, .inr (9, ([.ref (ad X 1), .ref (ad X 4), .ref (ad X 6), .ref (ad X 11), .ref (ad X 14), .ref (ad X 17), .ref (ad X 20), .ref (ad X 22), .ref (ad X 24), .ref (ad X 26), .ref (ad X 30), .ref (ad X 36), .ref (ad X 40), .int (gI T 13), .int (gI T 14)] : List Value).set 14 (.int v))) = wsT X (uI T 14 v) := rfl
theorem wP_1_0 (X : XT) (T : TS) (v : Int32) : (wsT X T).set 1 (ad X 1, .inr (3, ([.int (gI T 50), .int (gI T 51), .int (gI T 52), .int (gI T 53), .int (gI T 54), .int (gI T 55), .ref (ad X 2), .ref (ad X 3)] : List Value).set 0 (.int v))) = wsT X (uI T 50 v) := rfl
theorem wP_1_1 (X : XT) (T : TS) (v : Int32) : (wsT X T).set 1 (ad X 1, .inr (3, ([.int (gI T 50), .int (gI T 51), .int (gI T 52), .int (gI T 53), .int (gI T 54), .int (gI T 55), .ref (ad X 2), .ref (ad X 3)] : List Value).set 1 (.int v))) = wsT X (uI T 51 v) := rfl
theorem wP_1_2 (X : XT) (T : TS) (v : Int32) : (wsT X T).set 1 (ad X 1, .inr (3, ([.int (gI T 50), .int (gI T 51), .int (gI T 52), .int (gI T 53), .int (gI T 54), .int (gI T 55), .ref (ad X 2), .ref (ad X 3)] : List Value).set 2 (.int v))) = wsT X (uI T 52 v) := rfl
theorem wP_1_3 (X : XT) (T : TS) (v : Int32) : (wsT X T).set 1 (ad X 1, .inr (3, ([.int (gI T 50), .int (gI T 51), .int (gI T 52), .int (gI T 53), .int (gI T 54), .int (gI T 55), .ref (ad X 2), .ref (ad X 3)] : List Value).set 3 (.int v))) = wsT X (uI T 53 v) := rfl
theorem wP_1_4 (X : XT) (T : TS) (v : Int32) : (wsT X T).set 1 (ad X 1, .inr (3, ([.int (gI T 50), .int (gI T 51), .int (gI T 52), .int (gI T 53), .int (gI T 54), .int (gI T 55), .ref (ad X 2), .ref (ad X 3)] : List Value).set 4 (.int v))) = wsT X (uI T 54 v) := rfl
theorem wP_1_5 (X : XT) (T : TS) (v : Int32) : (wsT X T).set 1 (ad X 1, .inr (3, ([.int (gI T 50), .int (gI T 51), .int (gI T 52), .int (gI T 53), .int (gI T 54), .int (gI T 55), .ref (ad X 2), .ref (ad X 3)] : List Value).set 5 (.int v))) = wsT X (uI T 55 v) := rfl
theorem wS_2 (X : XT) (T : TS) (f : Nat → Int32) : (wsT X T).set 2 (ad X 2, .inl (xI X, 6, .inl f)) = wsT X (uA T 2 f) := wS_of f (by decide) rfl
theorem wS_3 (X : XT) (T : TS) (f : Nat → Int32) : (wsT X T).set 3 (ad X 3, .inl (xI X, 6, .inl f)) = wsT X (uA T 3 f) := wS_of f (by decide) rfl
theorem wP_4_2 (X : XT) (T : TS) (v : Int32) : (wsT X T).set 4 (ad X 4, .inr (4, ([.ref (ad X 1), .ref (ad X 5), .int (gI T 202), .int (gI T 203), .int (gI T 204)] : List Value).set 2 (.int v))) = wsT X (uI T 202 v) := rfl
theorem wP_4_3 (X : XT) (T : TS) (v : Int32) : (wsT X T).set 4 (ad X 4, .inr (4, ([.ref (ad X 1), .ref (ad X 5), .int (gI T 202), .int (gI T 203), .int (gI T 204)] : List Value).set 3 (.int v))) = wsT X (uI T 203 v) := rfl
theorem wP_4_4 (X : XT) (T : TS) (v : Int32) : (wsT X T).set 4 (ad X 4, .inr (4, ([.ref (ad X 1), .ref (ad X 5), .int (gI T 202), .int (gI T 203), .int (gI T 204)] : List Value).set 4 (.int v))) = wsT X (uI T 204 v) := rfl
theorem wS_5 (X : XT) (T : TS) (f : Nat → Int32) : (wsT X T).set 5 (ad X 5, .inl (xI X, 3000, .inl f)) = wsT X (uA T 5 f) := wS_of f (by decide) rfl
theorem wP_6_5 (X : XT) (T : TS) (v : Int32) : (wsT X T).set 6 (ad X 6, .inr (5, ([.ref (ad X 1), .ref (ad X 7), .ref (ad X 8), .ref (ad X 9), .ref (ad X 10), .int (gI T 305)] : List Value).set 5 (.int v))) = wsT X (uI T 305 v) := rfl
theorem wS_7 (X : XT) (T : TS) (f : Nat → Int32) : (wsT X T).set 7 (ad X 7, .inl (xI X, 6, .inl f)) = wsT X (uA T 7 f) := wS_of f (by decide) rfl
theorem wS_8 (X : XT) (T : TS) (f : Nat → Int32) : (wsT X T).set 8 (ad X 8, .inl (xI X, 6, .inl f)) = wsT X (uA T 8 f) := wS_of f (by decide) rfl
theorem wS_9 (X : XT) (T : TS) (f : Nat → Int32) : (wsT X T).set 9 (ad X 9, .inl (xI X, 6, .inl f)) = wsT X (uA T 9 f) := wS_of f (by decide) rfl
theorem wS_10 (X : XT) (T : TS) (f : Nat → Int32) : (wsT X T).set 10 (ad X 10, .inl (xI X, 6, .inl f)) = wsT X (uA T 10 f) := wS_of f (by decide) rfl
theorem wP_11_0 (X : XT) (T : TS) (v : Int32) : (wsT X T).set 11 (ad X 11, .inr (7, ([.int (gI T 550), .ref (ad X 12), .ref (ad X 13)] : List Value).set 0 (.int v))) = wsT X (uI T 550 v) := rfl
theorem wS_12 (X : XT) (T : TS) (f : Nat → Int32) : (wsT X T).set 12 (ad X 12, .inl (xI X, 60, .inl f)) = wsT X (uA T 12 f) := wS_of f (by decide) rfl
theorem wS_13 (X : XT) (T : TS) (f : Nat → Int32) : (wsT X T).set 13 (ad X 13, .inl (xI X, 60, .inl f)) = wsT X (uA T 13 f) := wS_of f (by decide) rfl
theorem wP_14_0 (X : XT) (T : TS) (v : Int32) : (wsT X T).set 14 (ad X 14, .inr (7, ([.int (gI T 700), .ref (ad X 15), .ref (ad X 16)] : List Value).set 0 (.int v))) = wsT X (uI T 700 v) := rfl
theorem wS_15 (X : XT) (T : TS) (f : Nat → Int32) : (wsT X T).set 15 (ad X 15, .inl (xI X, 60, .inl f)) = wsT X (uA T 15 f) := wS_of f (by decide) rfl
theorem wS_16 (X : XT) (T : TS) (f : Nat → Int32) : (wsT X T).set 16 (ad X 16, .inl (xI X, 60, .inl f)) = wsT X (uA T 16 f) := wS_of f (by decide) rfl
theorem wP_17_0 (X : XT) (T : TS) (v : Int32) : (wsT X T).set 17 (ad X 17, .inr (7, ([.int (gI T 850), .ref (ad X 18), .ref (ad X 19)] : List Value).set 0 (.int v))) = wsT X (uI T 850 v) := rfl
theorem wS_18 (X : XT) (T : TS) (f : Nat → Int32) : (wsT X T).set 18 (ad X 18, .inl (xI X, 60, .inl f)) = wsT X (uA T 18 f) := wS_of f (by decide) rfl
theorem wS_19 (X : XT) (T : TS) (f : Nat → Int32) : (wsT X T).set 19 (ad X 19, .inl (xI X, 60, .inl f)) = wsT X (uA T 19 f) := wS_of f (by decide) rfl
theorem wP_20_0 (X : XT) (T : TS) (v : Int32) : (wsT X T).set 20 (ad X 20, .inr (0, ([.int (gI T 1000), .ref (ad X 21)] : List Value).set 0 (.int v))) = wsT X (uI T 1000 v) := rfl
theorem wS_21 (X : XT) (T : TS) (f : Nat → Int32) : (wsT X T).set 21 (ad X 21, .inl (xI X, 21, .inl f)) = wsT X (uA T 21 f) := wS_of f (by decide) rfl
theorem wP_22_0 (X : XT) (T : TS) (v : Int32) : (wsT X T).set 22 (ad X 22, .inr (0, ([.int (gI T 1100), .ref (ad X 23)] : List Value).set 0 (.int v))) = wsT X (uI T 1100 v) := rfl
theorem wS_23 (X : XT) (T : TS) (f : Nat → Int32) : (wsT X T).set 23 (ad X 23, .inl (xI X, 21, .inl f)) = wsT X (uA T 23 f) := wS_of f (by decide) rfl
theorem wP_24_0 (X : XT) (T : TS) (v : Int32) : (wsT X T).set 24 (ad X 24, .inr (0, ([.int (gI T 1200), .ref (ad X 25)] : List Value).set 0 (.int v))) = wsT X (uI T 1200 v) := rfl
theorem wS_25 (X : XT) (T : TS) (f : Nat → Int32) : (wsT X T).set 25 (ad X 25, .inl (xI X, 21, .inl f)) = wsT X (uA T 25 f) := wS_of f (by decide) rfl
theorem wP_26_0 (X : XT) (T : TS) (v : Int32) : (wsT X T).set 26 (ad X 26, .inr (2, ([.int (gI T 1300), .ref (ad X 27), .ref (ad X 28), .ref (ad X 29)] : List Value).set 0 (.int v))) = wsT X (uI T 1300 v) := rfl
theorem wS_27 (X : XT) (T : TS) (f : Nat → Int32) : (wsT X T).set 27 (ad X 27, .inl (xI X, 72, .inl f)) = wsT X (uA T 27 f) := wS_of f (by decide) rfl
theorem wS_28 (X : XT) (T : TS) (f : Nat → Int32) : (wsT X T).set 28 (ad X 28, .inl (xI X, 2304, .inl f)) = wsT X (uA T 28 f) := wS_of f (by decide) rfl
theorem wS_29 (X : XT) (T : TS) (f : Nat → Int32) : (wsT X T).set 29 (ad X 29, .inl (xI X, 8, .inl f)) = wsT X (uA T 29 f) := wS_of f (by decide) rfl
theorem wP_30_6 (X : XT) (T : TS) (v : Int32) : (wsT X T).set 30 (ad X 30, .inr (6, ([.ref (ad X 1), .ref (ad X 31), .ref (ad X 32), .ref (ad X 33), .ref (ad X 34), .ref (ad X 35), .int (gI T 1506), .int (gI T 1507), .int (gI T 1508)] : List Value).set 6 (.int v))) = wsT X (uI T 1506 v) := rfl
theorem wP_30_7 (X : XT) (T : TS) (v : Int32) : (wsT X T).set 30 (ad X 30, .inr (6, ([.ref (ad X 1), .ref (ad X 31), .ref (ad X 32), .ref (ad X 33), .ref (ad X 34), .ref (ad X 35), .int (gI T 1506), .int (gI T 1507), .int (gI T 1508)] : List Value).set 7 (.int v))) = wsT X (uI T 1507 v) := rfl
theorem wP_30_8 (X : XT) (T : TS) (v : Int32) : (wsT X T).set 30 (ad X 30, .inr (6, ([.ref (ad X 1), .ref (ad X 31), .ref (ad X 32), .ref (ad X 33), .ref (ad X 34), .ref (ad X 35), .int (gI T 1506), .int (gI T 1507), .int (gI T 1508)] : List Value).set 8 (.int v))) = wsT X (uI T 1508 v) := rfl
theorem wS_31 (X : XT) (T : TS) (f : Nat → Int32) : (wsT X T).set 31 (ad X 31, .inl (xI X, 6, .inl f)) = wsT X (uA T 31 f) := wS_of f (by decide) rfl
theorem wS_32 (X : XT) (T : TS) (f : Nat → Int32) : (wsT X T).set 32 (ad X 32, .inl (xI X, 6, .inl f)) = wsT X (uA T 32 f) := wS_of f (by decide) rfl
theorem wS_33 (X : XT) (T : TS) (f : Nat → Int32) : (wsT X T).set 33 (ad X 33, .inl (xI X, 6, .inl f)) = wsT X (uA T 33 f) := wS_of f (by decide) rfl
theorem wS_34 (X : XT) (T : TS) (f : Nat → Int32) : (wsT X T).set 34 (ad X 34, .inl (xI X, 5000, .inl f)) = wsT X (uA T 34 f) := wS_of f (by decide) rfl
theorem wS_35 (X : XT) (T : TS) (f : Nat → Int32) : (wsT X T).set 35 (ad X 35, .inl (xI X, 3000, .inl f)) = wsT X (uA T 35 f) := wS_of f (by decide) rfl
theorem wP_36_0 (X : XT) (T : TS) (v : Int32) : (wsT X T).set 36 (ad X 36, .inr (8, ([.int (gI T 1800), .ref (ad X 37), .ref (ad X 38), .ref (ad X 39)] : List Value).set 0 (.int v))) = wsT X (uI T 1800 v) := rfl
theorem wS_37 (X : XT) (T : TS) (f : Nat → Int32) : (wsT X T).set 37 (ad X 37, .inl (xI X, 8, .inl f)) = wsT X (uA T 37 f) := wS_of f (by decide) rfl
theorem wS_38 (X : XT) (T : TS) (f : Nat → Int32) : (wsT X T).set 38 (ad X 38, .inl (xI X, 8, .inl f)) = wsT X (uA T 38 f) := wS_of f (by decide) rfl
theorem wS_39 (X : XT) (T : TS) (f : Nat → Int32) : (wsT X T).set 39 (ad X 39, .inl (xZ X, 8, .inl f)) = wsT X (uA T 39 f) := wS_of f (by decide) rfl
theorem wP_40_0 (X : XT) (T : TS) (v : Int64) : (wsT X T).set 40 (ad X 40, .inr (1, ([.long (gJ T 0), .long (gJ T 1), .long (gJ T 2), .long (gJ T 3), .long (gJ T 4), .long (gJ T 5)] : List Value).set 0 (.long v))) = wsT X (uJ T 0 v) := rfl
theorem wP_40_1 (X : XT) (T : TS) (v : Int64) : (wsT X T).set 40 (ad X 40, .inr (1, ([.long (gJ T 0), .long (gJ T 1), .long (gJ T 2), .long (gJ T 3), .long (gJ T 4), .long (gJ T 5)] : List Value).set 1 (.long v))) = wsT X (uJ T 1 v) := rfl
theorem wP_40_2 (X : XT) (T : TS) (v : Int64) : (wsT X T).set 40 (ad X 40, .inr (1, ([.long (gJ T 0), .long (gJ T 1), .long (gJ T 2), .long (gJ T 3), .long (gJ T 4), .long (gJ T 5)] : List Value).set 2 (.long v))) = wsT X (uJ T 2 v) := rfl
theorem wP_40_3 (X : XT) (T : TS) (v : Int64) : (wsT X T).set 40 (ad X 40, .inr (1, ([.long (gJ T 0), .long (gJ T 1), .long (gJ T 2), .long (gJ T 3), .long (gJ T 4), .long (gJ T 5)] : List Value).set 3 (.long v))) = wsT X (uJ T 3 v) := rfl
theorem wP_40_4 (X : XT) (T : TS) (v : Int64) : (wsT X T).set 40 (ad X 40, .inr (1, ([.long (gJ T 0), .long (gJ T 1), .long (gJ T 2), .long (gJ T 3), .long (gJ T 4), .long (gJ T 5)] : List Value).set 4 (.long v))) = wsT X (uJ T 4 v) := rfl
theorem wP_40_5 (X : XT) (T : TS) (v : Int64) : (wsT X T).set 40 (ad X 40, .inr (1, ([.long (gJ T 0), .long (gJ T 1), .long (gJ T 2), .long (gJ T 3), .long (gJ T 4), .long (gJ T 5)] : List Value).set 5 (.long v))) = wsT X (uJ T 5 v) := rfl
theorem wP_41_0 (X : XT) (T : TS) (v : Int32) : (wsT X T).set 41 (ad X 41, .inr (10, ([.int (gI T 2050), .int (gI T 2051), .int (gI T 2052), .int (gI T 2053), .int (gI T 2054), .int (gI T 2055), .int (gI T 2056), .ref (ad X 42), .ref (ad X 43), .ref (ad X 44), .ref (ad X 45), .int (gI T 2061), .int (gI T 2062), .int (gI T 2063), .int (gI T 2064), .ref (ad X 46), .ref (ad X 47), .int (gI T 2067), .ref (ad X 48), .ref (ad X 49), .int (gI T 2070), .ref (ad X 50), .ref (ad X 51), .int (gI T 2073), .int (gI T 2074), .int (gI T 2075), .ref (ad X 52), .ref (ad X 53), .ref (ad X 54), .ref (ad X 55), .ref (ad X 56), .ref (ad X 57), .ref (ad X 58), .int (gI T 2083), .ref (ad X 59), .ref (ad X 60), .ref (ad X 61), .int (gI T 2087), .ref (ad X 62), .ref (ad X 63), .ref (ad X 64), .ref (ad X 65)] : List Value).set 0 (.int v))) = wsT X (uI T 2050 v) := rfl
theorem wP_41_1 (X : XT) (T : TS) (v : Int32) : (wsT X T).set 41 (ad X 41, .inr (10, ([.int (gI T 2050), .int (gI T 2051), .int (gI T 2052), .int (gI T 2053), .int (gI T 2054), .int (gI T 2055), .int (gI T 2056), .ref (ad X 42), .ref (ad X 43), .ref (ad X 44), .ref (ad X 45), .int (gI T 2061), .int (gI T 2062), .int (gI T 2063), .int (gI T 2064), .ref (ad X 46), .ref (ad X 47), .int (gI T 2067), .ref (ad X 48), .ref (ad X 49), .int (gI T 2070), .ref (ad X 50), .ref (ad X 51), .int (gI T 2073), .int (gI T 2074), .int (gI T 2075), .ref (ad X 52), .ref (ad X 53), .ref (ad X 54), .ref (ad X 55), .ref (ad X 56), .ref (ad X 57), .ref (ad X 58), .int (gI T 2083), .ref (ad X 59), .ref (ad X 60), .ref (ad X 61), .int (gI T 2087), .ref (ad X 62), .ref (ad X 63), .ref (ad X 64), .ref (ad X 65)] : List Value).set 1 (.int v))) = wsT X (uI T 2051 v) := rfl
theorem wP_41_2 (X : XT) (T : TS) (v : Int32) : (wsT X T).set 41 (ad X 41, .inr (10, ([.int (gI T 2050), .int (gI T 2051), .int (gI T 2052), .int (gI T 2053), .int (gI T 2054), .int (gI T 2055), .int (gI T 2056), .ref (ad X 42), .ref (ad X 43), .ref (ad X 44), .ref (ad X 45), .int (gI T 2061), .int (gI T 2062), .int (gI T 2063), .int (gI T 2064), .ref (ad X 46), .ref (ad X 47), .int (gI T 2067), .ref (ad X 48), .ref (ad X 49), .int (gI T 2070), .ref (ad X 50), .ref (ad X 51), .int (gI T 2073), .int (gI T 2074), .int (gI T 2075), .ref (ad X 52), .ref (ad X 53), .ref (ad X 54), .ref (ad X 55), .ref (ad X 56), .ref (ad X 57), .ref (ad X 58), .int (gI T 2083), .ref (ad X 59), .ref (ad X 60), .ref (ad X 61), .int (gI T 2087), .ref (ad X 62), .ref (ad X 63), .ref (ad X 64), .ref (ad X 65)] : List Value).set 2 (.int v))) = wsT X (uI T 2052 v) := rfl
theorem wP_41_3 (X : XT) (T : TS) (v : Int32) : (wsT X T).set 41 (ad X 41, .inr (10, ([.int (gI T 2050), .int (gI T 2051), .int (gI T 2052), .int (gI T 2053), .int (gI T 2054), .int (gI T 2055), .int (gI T 2056), .ref (ad X 42), .ref (ad X 43), .ref (ad X 44), .ref (ad X 45), .int (gI T 2061), .int (gI T 2062), .int (gI T 2063), .int (gI T 2064), .ref (ad X 46), .ref (ad X 47), .int (gI T 2067), .ref (ad X 48), .ref (ad X 49), .int (gI T 2070), .ref (ad X 50), .ref (ad X 51), .int (gI T 2073), .int (gI T 2074), .int (gI T 2075), .ref (ad X 52), .ref (ad X 53), .ref (ad X 54), .ref (ad X 55), .ref (ad X 56), .ref (ad X 57), .ref (ad X 58), .int (gI T 2083), .ref (ad X 59), .ref (ad X 60), .ref (ad X 61), .int (gI T 2087), .ref (ad X 62), .ref (ad X 63), .ref (ad X 64), .ref (ad X 65)] : List Value).set 3 (.int v))) = wsT X (uI T 2053 v) := rfl
theorem wP_41_4 (X : XT) (T : TS) (v : Int32) : (wsT X T).set 41 (ad X 41, .inr (10, ([.int (gI T 2050), .int (gI T 2051), .int (gI T 2052), .int (gI T 2053), .int (gI T 2054), .int (gI T 2055), .int (gI T 2056), .ref (ad X 42), .ref (ad X 43), .ref (ad X 44), .ref (ad X 45), .int (gI T 2061), .int (gI T 2062), .int (gI T 2063), .int (gI T 2064), .ref (ad X 46), .ref (ad X 47), .int (gI T 2067), .ref (ad X 48), .ref (ad X 49), .int (gI T 2070), .ref (ad X 50), .ref (ad X 51), .int (gI T 2073), .int (gI T 2074), .int (gI T 2075), .ref (ad X 52), .ref (ad X 53), .ref (ad X 54), .ref (ad X 55), .ref (ad X 56), .ref (ad X 57), .ref (ad X 58), .int (gI T 2083), .ref (ad X 59), .ref (ad X 60), .ref (ad X 61), .int (gI T 2087), .ref (ad X 62), .ref (ad X 63), .ref (ad X 64), .ref (ad X 65)] : List Value).set 4 (.int v))) = wsT X (uI T 2054 v) := rfl
theorem wP_41_5 (X : XT) (T : TS) (v : Int32) : (wsT X T).set 41 (ad X 41, .inr (10, ([.int (gI T 2050), .int (gI T 2051), .int (gI T 2052), .int (gI T 2053), .int (gI T 2054), .int (gI T 2055), .int (gI T 2056), .ref (ad X 42), .ref (ad X 43), .ref (ad X 44), .ref (ad X 45), .int (gI T 2061), .int (gI T 2062), .int (gI T 2063), .int (gI T 2064), .ref (ad X 46), .ref (ad X 47), .int (gI T 2067), .ref (ad X 48), .ref (ad X 49), .int (gI T 2070), .ref (ad X 50), .ref (ad X 51), .int (gI T 2073), .int (gI T 2074), .int (gI T 2075), .ref (ad X 52), .ref (ad X 53), .ref (ad X 54), .ref (ad X 55), .ref (ad X 56), .ref (ad X 57), .ref (ad X 58), .int (gI T 2083), .ref (ad X 59), .ref (ad X 60), .ref (ad X 61), .int (gI T 2087), .ref (ad X 62), .ref (ad X 63), .ref (ad X 64), .ref (ad X 65)] : List Value).set 5 (.int v))) = wsT X (uI T 2055 v) := rfl
theorem wP_41_6 (X : XT) (T : TS) (v : Int32) : (wsT X T).set 41 (ad X 41, .inr (10, ([.int (gI T 2050), .int (gI T 2051), .int (gI T 2052), .int (gI T 2053), .int (gI T 2054), .int (gI T 2055), .int (gI T 2056), .ref (ad X 42), .ref (ad X 43), .ref (ad X 44), .ref (ad X 45), .int (gI T 2061), .int (gI T 2062), .int (gI T 2063), .int (gI T 2064), .ref (ad X 46), .ref (ad X 47), .int (gI T 2067), .ref (ad X 48), .ref (ad X 49), .int (gI T 2070), .ref (ad X 50), .ref (ad X 51), .int (gI T 2073), .int (gI T 2074), .int (gI T 2075), .ref (ad X 52), .ref (ad X 53), .ref (ad X 54), .ref (ad X 55), .ref (ad X 56), .ref (ad X 57), .ref (ad X 58), .int (gI T 2083), .ref (ad X 59), .ref (ad X 60), .ref (ad X 61), .int (gI T 2087), .ref (ad X 62), .ref (ad X 63), .ref (ad X 64), .ref (ad X 65)] : List Value).set 6 (.int v))) = wsT X (uI T 2056 v) := rfl
theorem wP_41_11 (X : XT) (T : TS) (v : Int32) : (wsT X T).set 41 (ad X 41, .inr (10, ([.int (gI T 2050), .int (gI T 2051), .int (gI T 2052), .int (gI T 2053), .int (gI T 2054), .int (gI T 2055), .int (gI T 2056), .ref (ad X 42), .ref (ad X 43), .ref (ad X 44), .ref (ad X 45), .int (gI T 2061), .int (gI T 2062), .int (gI T 2063), .int (gI T 2064), .ref (ad X 46), .ref (ad X 47), .int (gI T 2067), .ref (ad X 48), .ref (ad X 49), .int (gI T 2070), .ref (ad X 50), .ref (ad X 51), .int (gI T 2073), .int (gI T 2074), .int (gI T 2075), .ref (ad X 52), .ref (ad X 53), .ref (ad X 54), .ref (ad X 55), .ref (ad X 56), .ref (ad X 57), .ref (ad X 58), .int (gI T 2083), .ref (ad X 59), .ref (ad X 60), .ref (ad X 61), .int (gI T 2087), .ref (ad X 62), .ref (ad X 63), .ref (ad X 64), .ref (ad X 65)] : List Value).set 11 (.int v))) = wsT X (uI T 2061 v) := rfl
theorem wP_41_12 (X : XT) (T : TS) (v : Int32) : (wsT X T).set 41 (ad X 41, .inr (10, ([.int (gI T 2050), .int (gI T 2051), .int (gI T 2052), .int (gI T 2053), .int (gI T 2054), .int (gI T 2055), .int (gI T 2056), .ref (ad X 42), .ref (ad X 43), .ref (ad X 44), .ref (ad X 45), .int (gI T 2061), .int (gI T 2062), .int (gI T 2063), .int (gI T 2064), .ref (ad X 46), .ref (ad X 47), .int (gI T 2067), .ref (ad X 48), .ref (ad X 49), .int (gI T 2070), .ref (ad X 50), .ref (ad X 51), .int (gI T 2073), .int (gI T 2074), .int (gI T 2075), .ref (ad X 52), .ref (ad X 53), .ref (ad X 54), .ref (ad X 55), .ref (ad X 56), .ref (ad X 57), .ref (ad X 58), .int (gI T 2083), .ref (ad X 59), .ref (ad X 60), .ref (ad X 61), .int (gI T 2087), .ref (ad X 62), .ref (ad X 63), .ref (ad X 64), .ref (ad X 65)] : List Value).set 12 (.int v))) = wsT X (uI T 2062 v) := rfl
theorem wP_41_13 (X : XT) (T : TS) (v : Int32) : (wsT X T).set 41 (ad X 41, .inr (10, ([.int (gI T 2050), .int (gI T 2051), .int (gI T 2052), .int (gI T 2053), .int (gI T 2054), .int (gI T 2055), .int (gI T 2056), .ref (ad X 42), .ref (ad X 43), .ref (ad X 44), .ref (ad X 45), .int (gI T 2061), .int (gI T 2062), .int (gI T 2063), .int (gI T 2064), .ref (ad X 46), .ref (ad X 47), .int (gI T 2067), .ref (ad X 48), .ref (ad X 49), .int (gI T 2070), .ref (ad X 50), .ref (ad X 51), .int (gI T 2073), .int (gI T 2074), .int (gI T 2075), .ref (ad X 52), .ref (ad X 53), .ref (ad X 54), .ref (ad X 55), .ref (ad X 56), .ref (ad X 57), .ref (ad X 58), .int (gI T 2083), .ref (ad X 59), .ref (ad X 60), .ref (ad X 61), .int (gI T 2087), .ref (ad X 62), .ref (ad X 63), .ref (ad X 64), .ref (ad X 65)] : List Value).set 13 (.int v))) = wsT X (uI T 2063 v) := rfl
theorem wP_41_14 (X : XT) (T : TS) (v : Int32) : (wsT X T).set 41 (ad X 41, .inr (10, ([.int (gI T 2050), .int (gI T 2051), .int (gI T 2052), .int (gI T 2053), .int (gI T 2054), .int (gI T 2055), .int (gI T 2056), .ref (ad X 42), .ref (ad X 43), .ref (ad X 44), .ref (ad X 45), .int (gI T 2061), .int (gI T 2062), .int (gI T 2063), .int (gI T 2064), .ref (ad X 46), .ref (ad X 47), .int (gI T 2067), .ref (ad X 48), .ref (ad X 49), .int (gI T 2070), .ref (ad X 50), .ref (ad X 51), .int (gI T 2073), .int (gI T 2074), .int (gI T 2075), .ref (ad X 52), .ref (ad X 53), .ref (ad X 54), .ref (ad X 55), .ref (ad X 56), .ref (ad X 57), .ref (ad X 58), .int (gI T 2083), .ref (ad X 59), .ref (ad X 60), .ref (ad X 61), .int (gI T 2087), .ref (ad X 62), .ref (ad X 63), .ref (ad X 64), .ref (ad X 65)] : List Value).set 14 (.int v))) = wsT X (uI T 2064 v) := rfl
theorem wP_41_17 (X : XT) (T : TS) (v : Int32) : (wsT X T).set 41 (ad X 41, .inr (10, ([.int (gI T 2050), .int (gI T 2051), .int (gI T 2052), .int (gI T 2053), .int (gI T 2054), .int (gI T 2055), .int (gI T 2056), .ref (ad X 42), .ref (ad X 43), .ref (ad X 44), .ref (ad X 45), .int (gI T 2061), .int (gI T 2062), .int (gI T 2063), .int (gI T 2064), .ref (ad X 46), .ref (ad X 47), .int (gI T 2067), .ref (ad X 48), .ref (ad X 49), .int (gI T 2070), .ref (ad X 50), .ref (ad X 51), .int (gI T 2073), .int (gI T 2074), .int (gI T 2075), .ref (ad X 52), .ref (ad X 53), .ref (ad X 54), .ref (ad X 55), .ref (ad X 56), .ref (ad X 57), .ref (ad X 58), .int (gI T 2083), .ref (ad X 59), .ref (ad X 60), .ref (ad X 61), .int (gI T 2087), .ref (ad X 62), .ref (ad X 63), .ref (ad X 64), .ref (ad X 65)] : List Value).set 17 (.int v))) = wsT X (uI T 2067 v) := rfl
theorem wP_41_20 (X : XT) (T : TS) (v : Int32) : (wsT X T).set 41 (ad X 41, .inr (10, ([.int (gI T 2050), .int (gI T 2051), .int (gI T 2052), .int (gI T 2053), .int (gI T 2054), .int (gI T 2055), .int (gI T 2056), .ref (ad X 42), .ref (ad X 43), .ref (ad X 44), .ref (ad X 45), .int (gI T 2061), .int (gI T 2062), .int (gI T 2063), .int (gI T 2064), .ref (ad X 46), .ref (ad X 47), .int (gI T 2067), .ref (ad X 48), .ref (ad X 49), .int (gI T 2070), .ref (ad X 50), .ref (ad X 51), .int (gI T 2073), .int (gI T 2074), .int (gI T 2075), .ref (ad X 52), .ref (ad X 53), .ref (ad X 54), .ref (ad X 55), .ref (ad X 56), .ref (ad X 57), .ref (ad X 58), .int (gI T 2083), .ref (ad X 59), .ref (ad X 60), .ref (ad X 61), .int (gI T 2087), .ref (ad X 62), .ref (ad X 63), .ref (ad X 64), .ref (ad X 65)] : List Value).set 20 (.int v))) = wsT X (uI T 2070 v) := rfl
theorem wP_41_23 (X : XT) (T : TS) (v : Int32) : (wsT X T).set 41 (ad X 41, .inr (10, ([.int (gI T 2050), .int (gI T 2051), .int (gI T 2052), .int (gI T 2053), .int (gI T 2054), .int (gI T 2055), .int (gI T 2056), .ref (ad X 42), .ref (ad X 43), .ref (ad X 44), .ref (ad X 45), .int (gI T 2061), .int (gI T 2062), .int (gI T 2063), .int (gI T 2064), .ref (ad X 46), .ref (ad X 47), .int (gI T 2067), .ref (ad X 48), .ref (ad X 49), .int (gI T 2070), .ref (ad X 50), .ref (ad X 51), .int (gI T 2073), .int (gI T 2074), .int (gI T 2075), .ref (ad X 52), .ref (ad X 53), .ref (ad X 54), .ref (ad X 55), .ref (ad X 56), .ref (ad X 57), .ref (ad X 58), .int (gI T 2083), .ref (ad X 59), .ref (ad X 60), .ref (ad X 61), .int (gI T 2087), .ref (ad X 62), .ref (ad X 63), .ref (ad X 64), .ref (ad X 65)] : List Value).set 23 (.int v))) = wsT X (uI T 2073 v) := rfl
theorem wP_41_24 (X : XT) (T : TS) (v : Int32) : (wsT X T).set 41 (ad X 41, .inr (10, ([.int (gI T 2050), .int (gI T 2051), .int (gI T 2052), .int (gI T 2053), .int (gI T 2054), .int (gI T 2055), .int (gI T 2056), .ref (ad X 42), .ref (ad X 43), .ref (ad X 44), .ref (ad X 45), .int (gI T 2061), .int (gI T 2062), .int (gI T 2063), .int (gI T 2064), .ref (ad X 46), .ref (ad X 47), .int (gI T 2067), .ref (ad X 48), .ref (ad X 49), .int (gI T 2070), .ref (ad X 50), .ref (ad X 51), .int (gI T 2073), .int (gI T 2074), .int (gI T 2075), .ref (ad X 52), .ref (ad X 53), .ref (ad X 54), .ref (ad X 55), .ref (ad X 56), .ref (ad X 57), .ref (ad X 58), .int (gI T 2083), .ref (ad X 59), .ref (ad X 60), .ref (ad X 61), .int (gI T 2087), .ref (ad X 62), .ref (ad X 63), .ref (ad X 64), .ref (ad X 65)] : List Value).set 24 (.int v))) = wsT X (uI T 2074 v) := rfl
theorem wP_41_25 (X : XT) (T : TS) (v : Int32) : (wsT X T).set 41 (ad X 41, .inr (10, ([.int (gI T 2050), .int (gI T 2051), .int (gI T 2052), .int (gI T 2053), .int (gI T 2054), .int (gI T 2055), .int (gI T 2056), .ref (ad X 42), .ref (ad X 43), .ref (ad X 44), .ref (ad X 45), .int (gI T 2061), .int (gI T 2062), .int (gI T 2063), .int (gI T 2064), .ref (ad X 46), .ref (ad X 47), .int (gI T 2067), .ref (ad X 48), .ref (ad X 49), .int (gI T 2070), .ref (ad X 50), .ref (ad X 51), .int (gI T 2073), .int (gI T 2074), .int (gI T 2075), .ref (ad X 52), .ref (ad X 53), .ref (ad X 54), .ref (ad X 55), .ref (ad X 56), .ref (ad X 57), .ref (ad X 58), .int (gI T 2083), .ref (ad X 59), .ref (ad X 60), .ref (ad X 61), .int (gI T 2087), .ref (ad X 62), .ref (ad X 63), .ref (ad X 64), .ref (ad X 65)] : List Value).set 25 (.int v))) = wsT X (uI T 2075 v) := rfl
theorem wP_41_33 (X : XT) (T : TS) (v : Int32) : (wsT X T).set 41 (ad X 41, .inr (10, ([.int (gI T 2050), .int (gI T 2051), .int (gI T 2052), .int (gI T 2053), .int (gI T 2054), .int (gI T 2055), .int (gI T 2056), .ref (ad X 42), .ref (ad X 43), .ref (ad X 44), .ref (ad X 45), .int (gI T 2061), .int (gI T 2062), .int (gI T 2063), .int (gI T 2064), .ref (ad X 46), .ref (ad X 47), .int (gI T 2067), .ref (ad X 48), .ref (ad X 49), .int (gI T 2070), .ref (ad X 50), .ref (ad X 51), .int (gI T 2073), .int (gI T 2074), .int (gI T 2075), .ref (ad X 52), .ref (ad X 53), .ref (ad X 54), .ref (ad X 55), .ref (ad X 56), .ref (ad X 57), .ref (ad X 58), .int (gI T 2083), .ref (ad X 59), .ref (ad X 60), .ref (ad X 61), .int (gI T 2087), .ref (ad X 62), .ref (ad X 63), .ref (ad X 64), .ref (ad X 65)] : List Value).set 33 (.int v))) = wsT X (uI T 2083 v) := rfl
theorem wP_41_37 (X : XT) (T : TS) (v : Int32) : (wsT X T).set 41 (ad X 41, .inr (10, ([.int (gI T 2050), .int (gI T 2051), .int (gI T 2052), .int (gI T 2053), .int (gI T 2054), .int (gI T 2055), .int (gI T 2056), .ref (ad X 42), .ref (ad X 43), .ref (ad X 44), .ref (ad X 45), .int (gI T 2061), .int (gI T 2062), .int (gI T 2063), .int (gI T 2064), .ref (ad X 46), .ref (ad X 47), .int (gI T 2067), .ref (ad X 48), .ref (ad X 49), .int (gI T 2070), .ref (ad X 50), .ref (ad X 51), .int (gI T 2073), .int (gI T 2074), .int (gI T 2075), .ref (ad X 52), .ref (ad X 53), .ref (ad X 54), .ref (ad X 55), .ref (ad X 56), .ref (ad X 57), .ref (ad X 58), .int (gI T 2083), .ref (ad X 59), .ref (ad X 60), .ref (ad X 61), .int (gI T 2087), .ref (ad X 62), .ref (ad X 63), .ref (ad X 64), .ref (ad X 65)] : List Value).set 37 (.int v))) = wsT X (uI T 2087 v) := rfl
theorem wS_42 (X : XT) (T : TS) (f : Nat → Int32) : (wsT X T).set 42 (ad X 42, .inl (xI X, 6, .inl f)) = wsT X (uA T 42 f) := wS_of f (by decide) rfl
theorem wS_43 (X : XT) (T : TS) (f : Nat → Int32) : (wsT X T).set 43 (ad X 43, .inl (xI X, 6, .inl f)) = wsT X (uA T 43 f) := wS_of f (by decide) rfl
theorem wS_44 (X : XT) (T : TS) (f : Nat → Int32) : (wsT X T).set 44 (ad X 44, .inl (xI X, 6, .inl f)) = wsT X (uA T 44 f) := wS_of f (by decide) rfl
theorem wS_45 (X : XT) (T : TS) (f : Nat → Int32) : (wsT X T).set 45 (ad X 45, .inl (xI X, 6, .inl f)) = wsT X (uA T 45 f) := wS_of f (by decide) rfl
theorem wS_46 (X : XT) (T : TS) (f : Nat → Nat) : (wsT X T).set 46 (ad X 46, .inl (xO X, 3000, .inr (.inr (.inr (.inr (fun i => some (ad X (f i)))))))) = wsT X (uO T 46 f) := rfl
theorem wS_47 (X : XT) (T : TS) (f : Nat → Int32) : (wsT X T).set 47 (ad X 47, .inl (xI X, 6, .inl f)) = wsT X (uA T 47 f) := wS_of f (by decide) rfl
theorem wS_48 (X : XT) (T : TS) (f : Nat → Nat) : (wsT X T).set 48 (ad X 48, .inl (xO X, 60, .inr (.inr (.inr (.inr (fun i => some (ad X (f i)))))))) = wsT X (uO T 48 f) := rfl
theorem wS_49 (X : XT) (T : TS) (f : Nat → Int32) : (wsT X T).set 49 (ad X 49, .inl (xI X, 60, .inl f)) = wsT X (uA T 49 f) := wS_of f (by decide) rfl
theorem wS_50 (X : XT) (T : TS) (f : Nat → Nat) : (wsT X T).set 50 (ad X 50, .inl (xO X, 60, .inr (.inr (.inr (.inr (fun i => some (ad X (f i)))))))) = wsT X (uO T 50 f) := rfl
theorem wS_51 (X : XT) (T : TS) (f : Nat → Int32) : (wsT X T).set 51 (ad X 51, .inl (xI X, 60, .inl f)) = wsT X (uA T 51 f) := wS_of f (by decide) rfl
theorem wS_52 (X : XT) (T : TS) (f : Nat → Nat) : (wsT X T).set 52 (ad X 52, .inl (xO X, 60, .inr (.inr (.inr (.inr (fun i => some (ad X (f i)))))))) = wsT X (uO T 52 f) := rfl
theorem wS_53 (X : XT) (T : TS) (f : Nat → Int32) : (wsT X T).set 53 (ad X 53, .inl (xI X, 60, .inl f)) = wsT X (uA T 53 f) := wS_of f (by decide) rfl
theorem wS_54 (X : XT) (T : TS) (f : Nat → Int32) : (wsT X T).set 54 (ad X 54, .inl (xI X, 6, .inl f)) = wsT X (uA T 54 f) := wS_of f (by decide) rfl
theorem wS_55 (X : XT) (T : TS) (f : Nat → Int32) : (wsT X T).set 55 (ad X 55, .inl (xI X, 6, .inl f)) = wsT X (uA T 55 f) := wS_of f (by decide) rfl
theorem wS_56 (X : XT) (T : TS) (f : Nat → Int32) : (wsT X T).set 56 (ad X 56, .inl (xI X, 5000, .inl f)) = wsT X (uA T 56 f) := wS_of f (by decide) rfl
theorem wS_57 (X : XT) (T : TS) (f : Nat → Int32) : (wsT X T).set 57 (ad X 57, .inl (xI X, 6, .inl f)) = wsT X (uA T 57 f) := wS_of f (by decide) rfl
theorem wS_58 (X : XT) (T : TS) (f : Nat → Int32) : (wsT X T).set 58 (ad X 58, .inl (xI X, 21, .inl f)) = wsT X (uA T 58 f) := wS_of f (by decide) rfl
theorem wS_59 (X : XT) (T : TS) (f : Nat → Int32) : (wsT X T).set 59 (ad X 59, .inl (xI X, 21, .inl f)) = wsT X (uA T 59 f) := wS_of f (by decide) rfl
theorem wS_60 (X : XT) (T : TS) (f : Nat → Int32) : (wsT X T).set 60 (ad X 60, .inl (xI X, 21, .inl f)) = wsT X (uA T 60 f) := wS_of f (by decide) rfl
theorem wS_61 (X : XT) (T : TS) (f : Nat → Nat) : (wsT X T).set 61 (ad X 61, .inl (xO X, 256, .inr (.inr (.inr (.inr (fun i => some (ad X (f i)))))))) = wsT X (uO T 61 f) := rfl
theorem wS_62 (X : XT) (T : TS) (f : Nat → Int32) : (wsT X T).set 62 (ad X 62, .inl (xI X, 8, .inl f)) = wsT X (uA T 62 f) := wS_of f (by decide) rfl
theorem wS_63 (X : XT) (T : TS) (f : Nat → Int32) : (wsT X T).set 63 (ad X 63, .inl (xI X, 8, .inl f)) = wsT X (uA T 63 f) := wS_of f (by decide) rfl
theorem wS_64 (X : XT) (T : TS) (f : Nat → Int32) : (wsT X T).set 64 (ad X 64, .inl (xZ X, 8, .inl f)) = wsT X (uA T 64 f) := wS_of f (by decide) rfl
theorem wS_65 (X : XT) (T : TS) (f : Nat → Int64) : (wsT X T).set 65 (ad X 65, .inl (xJ X, 7, .inr (.inl f))) = wsT X (uL T 65 f) := rfl
theorem wS_66 (X : XT) (T : TS) (f : Nat → Int64) : (wsT X T).set 66 (ad X 66, .inl (xJ X, 1, .inr (.inl f))) = wsT X (uL T 66 f) := rfl
theorem wR_at (X : XT) (T : TS) {j : Nat} (hj : j < rN) : (wsT X T)[67 + j]? = some (ad X (67 + j), .inl (xI X, al (67 + j), .inl (gA T (67 + j)))) := by
  unfold wsT
  rw [List.getElem?_append_right (by rw [wsE_len]; omega), wsE_len, List.getElem?_append_left (by rw [wsR_len]; omega)]
  unfold wsR
  rw [show 67 + j - 67 = j by omega, List.getElem?_map, List.getElem?_range hj]
  rfl
theorem wG_at (X : XT) (T : TS) {q : Nat} (hq : isA q) : (wsT X T)[q]? = some (ad X q, .inl (xI X, al q, .inl (gA T q))) := by
  rcases hq with rfl | ⟨h1, h2⟩
  · exact wE_55 X T
  · obtain ⟨j, rfl⟩ : ∃ j, q = 67 + j := ⟨q - 67, by omega⟩
    exact wR_at X T (by omega)
theorem wsE_uA (X : XT) (T : TS) {q : Nat} (h : 67 ≤ q) (f : Nat → Int32) : wsE X (uA T q f) = wsE X T := by
  have e : ∀ c, c < 67 → gA (uA T q f) c = gA T c := fun c hc => by
    show va_up T.2.2.1 q f c = T.2.2.1 c
    unfold va_up
    rw [if_neg (by omega)]
  have eI : gI (uA T q f) = gI T := rfl
  have eJ : gJ (uA T q f) = gJ T := rfl
  have eL : gL (uA T q f) = gL T := rfl
  have eO : gO (uA T q f) = gO T := rfl
  unfold wsE
  simp only [eI, eJ, eL, eO, e _ (by decide : (2 : Nat) < 67), e _ (by decide : (3 : Nat) < 67), e _ (by decide : (5 : Nat) < 67), e _ (by decide : (7 : Nat) < 67), e _ (by decide : (8 : Nat) < 67), e _ (by decide : (9 : Nat) < 67), e _ (by decide : (10 : Nat) < 67), e _ (by decide : (12 : Nat) < 67), e _ (by decide : (13 : Nat) < 67), e _ (by decide : (15 : Nat) < 67), e _ (by decide : (16 : Nat) < 67), e _ (by decide : (18 : Nat) < 67), e _ (by decide : (19 : Nat) < 67), e _ (by decide : (21 : Nat) < 67), e _ (by decide : (23 : Nat) < 67), e _ (by decide : (25 : Nat) < 67), e _ (by decide : (27 : Nat) < 67), e _ (by decide : (28 : Nat) < 67), e _ (by decide : (29 : Nat) < 67), e _ (by decide : (31 : Nat) < 67), e _ (by decide : (32 : Nat) < 67), e _ (by decide : (33 : Nat) < 67), e _ (by decide : (34 : Nat) < 67), e _ (by decide : (35 : Nat) < 67), e _ (by decide : (37 : Nat) < 67), e _ (by decide : (38 : Nat) < 67), e _ (by decide : (39 : Nat) < 67), e _ (by decide : (42 : Nat) < 67), e _ (by decide : (43 : Nat) < 67), e _ (by decide : (44 : Nat) < 67), e _ (by decide : (45 : Nat) < 67), e _ (by decide : (47 : Nat) < 67), e _ (by decide : (49 : Nat) < 67), e _ (by decide : (51 : Nat) < 67), e _ (by decide : (53 : Nat) < 67), e _ (by decide : (54 : Nat) < 67), e _ (by decide : (55 : Nat) < 67), e _ (by decide : (56 : Nat) < 67), e _ (by decide : (57 : Nat) < 67), e _ (by decide : (58 : Nat) < 67), e _ (by decide : (59 : Nat) < 67), e _ (by decide : (60 : Nat) < 67), e _ (by decide : (62 : Nat) < 67), e _ (by decide : (63 : Nat) < 67), e _ (by decide : (64 : Nat) < 67)]
theorem wsR_uA (X : XT) (T : TS) {j : Nat} (hj : j < rN) (f : Nat → Int32) : (wsR X T).set j (ad X (67 + j), .inl (xI X, al (67 + j), .inl f)) = wsR X (uA T (67 + j) f) := by
  apply List.ext_getElem?
  intro i
  rw [List.getElem?_set]
  unfold wsR
  rw [List.getElem?_map, List.getElem?_map, List.length_map, List.length_range]
  by_cases hi : i < rN
  · rw [List.getElem?_range hi]
    by_cases he : j = i
    · subst he
      rw [if_pos rfl, if_pos hj]
      simp [gA, uA, va_up]
    · rw [if_neg he]
      have : ¬ (67 + i = 67 + j) := by omega
      have e2 : gA (uA T (67 + j) f) (67 + i) = gA T (67 + i) := by
        show va_up T.2.2.1 (67 + j) f (67 + i) = _
        rw [va_up, if_neg this]
        rfl
      simp only [Option.map_some, e2]
  · have hn : (List.range rN)[i]? = none := by rw [List.getElem?_eq_none_iff, List.length_range]; omega
    rw [hn]
    by_cases he : j = i
    · omega
    · rw [if_neg he]
      rfl
theorem wR_set (X : XT) (T : TS) {j : Nat} (hj : j < rN) (f : Nat → Int32) : (wsT X T).set (67 + j) (ad X (67 + j), .inl (xI X, al (67 + j), .inl f)) = wsT X (uA T (67 + j) f) := by
  unfold wsT
  rw [List.set_append_right _ _ (by rw [wsE_len]; omega), wsE_len, show 67 + j - 67 = j by omega, List.set_append_left _ _ (by rw [wsR_len]; omega), wsR_uA X T hj, wsE_uA X T (by omega)]
theorem wG_set (X : XT) (T : TS) {q : Nat} (hq : isA q) (f : Nat → Int32) : (wsT X T).set q (ad X q, .inl (xI X, al q, .inl f)) = wsT X (uA T q f) := by
  rcases hq with rfl | ⟨h1, h2⟩
  · exact wS_55 X T f
  · obtain ⟨j, rfl⟩ : ∃ j, q = 67 + j := ⟨q - 67, by omega⟩
    exact wR_set X T (by omega) f
