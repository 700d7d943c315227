/-! the memories (ints, longs) of the class and of the reference; the world that they stand for -/
abbrev nb_M : Type := (Nat → Nat → Int32) × (Nat → Nat → Int64)
/-- a row of ints, a place of a row, a place of a row of longs -/
def nb_r (M : nb_M) (c : Nat) (f : Nat → Int32) : nb_M := (fun k => if k = c then f else M.1 k, M.2)
def nb_i (M : nb_M) (c j : Nat) (v : Int32) : nb_M := nb_r M c (upd (M.1 c) j v)
def nb_l (M : nb_M) (c j : Nat) (v : Int64) : nb_M := (M.1, fun k => if k = c then vp_updL (M.2 c) j v else M.2 k)
def nb_w (ad : Nat → Nat) (ca : Nat → ClassId) (M N : nb_M) : va_W := [
  (ad 0, .inr (6, [.ref (ad 1), .ref (ad 18), .ref (ad 35), .ref (ad 38), .ref (ad 40), .ref (ad 42), .ref (ad 51), .int (M.1 0 7)])),
  (ad 1, .inr (0, [.int (M.1 1 0), .int (M.1 1 1), .int (M.1 1 2), .ref (ad 2), .ref (ad 3), .ref (ad 4), .int (M.1 1 6), .ref (ad 5), .ref (ad 6), .ref (ad 7), .ref (ad 8), .ref (ad 9), .ref (ad 10), .int (M.1 1 13), .ref (ad 11), .int (M.1 1 15)])),
  (ad 2, .inl (ca 0, 5, .inl (M.1 2))),
  (ad 3, .inl (ca 0, 5, .inl (M.1 3))),
  (ad 4, .inl (ca 0, 5, .inl (M.1 4))),
  (ad 5, .inl (ca 0, 9, .inl (M.1 5))),
  (ad 6, .inl (ca 0, 9, .inl (M.1 6))),
  (ad 7, .inl (ca 0, 9, .inl (M.1 7))),
  (ad 8, .inl (ca 0, 9, .inl (M.1 8))),
  (ad 9, .inl (ca 2, 2, .inr (.inr (.inr (.inr (va_up (va_up (fun _ => none) 0 (some (ad 12))) 1 (some (ad 15)))))))),
  (ad 10, .inl (ca 0, 60, .inl (M.1 10))),
  (ad 11, .inl (ca 0, 24, .inl (M.1 11))),
  (ad 12, .inr (3, [.ref (ad 13), .int (M.1 12 1), .ref (ad 14)])),
  (ad 13, .inl (ca 0, 60, .inl (M.1 13))),
  (ad 14, .inl (ca 0, 60, .inl (M.1 14))),
  (ad 15, .inr (3, [.ref (ad 16), .int (M.1 15 1), .ref (ad 17)])),
  (ad 16, .inl (ca 0, 60, .inl (M.1 16))),
  (ad 17, .inl (ca 0, 60, .inl (M.1 17))),
  (ad 18, .inr (0, [.int (M.1 18 0), .int (M.1 18 1), .int (M.1 18 2), .ref (ad 19), .ref (ad 20), .ref (ad 21), .int (M.1 18 6), .ref (ad 22), .ref (ad 23), .ref (ad 24), .ref (ad 25), .ref (ad 26), .ref (ad 27), .int (M.1 18 13), .ref (ad 28), .int (M.1 18 15)])),
  (ad 19, .inl (ca 0, 5, .inl (M.1 19))),
  (ad 20, .inl (ca 0, 5, .inl (M.1 20))),
  (ad 21, .inl (ca 0, 5, .inl (M.1 21))),
  (ad 22, .inl (ca 0, 9, .inl (M.1 22))),
  (ad 23, .inl (ca 0, 9, .inl (M.1 23))),
  (ad 24, .inl (ca 0, 9, .inl (M.1 24))),
  (ad 25, .inl (ca 0, 9, .inl (M.1 25))),
  (ad 26, .inl (ca 2, 2, .inr (.inr (.inr (.inr (va_up (va_up (fun _ => none) 0 (some (ad 29))) 1 (some (ad 32)))))))),
  (ad 27, .inl (ca 0, 60, .inl (M.1 27))),
  (ad 28, .inl (ca 0, 24, .inl (M.1 28))),
  (ad 29, .inr (3, [.ref (ad 30), .int (M.1 29 1), .ref (ad 31)])),
  (ad 30, .inl (ca 0, 60, .inl (M.1 30))),
  (ad 31, .inl (ca 0, 60, .inl (M.1 31))),
  (ad 32, .inr (3, [.ref (ad 33), .int (M.1 32 1), .ref (ad 34)])),
  (ad 33, .inl (ca 0, 60, .inl (M.1 33))),
  (ad 34, .inl (ca 0, 60, .inl (M.1 34))),
  (ad 35, .inr (1, [.ref (ad 36), .int (M.1 35 1), .int (M.1 35 2), .ref (ad 37), .int (M.1 35 4), .int (M.1 35 5)])),
  (ad 36, .inl (ca 0, 60, .inl (M.1 36))),
  (ad 37, .inl (ca 0, 60, .inl (M.1 37))),
  (ad 38, .inr (4, [.long (M.2 38 0), .long (M.2 38 1), .ref (ad 39)])),
  (ad 39, .inl (ca 1, 10, .inr (.inl (M.2 39)))),
  (ad 40, .inr (5, [.ref (ad 41), .int (M.1 40 1), .int (M.1 40 2), .int (M.1 40 3), .int (M.1 40 4), .int (M.1 40 5)])),
  (ad 41, .inl (ca 0, 30, .inl (M.1 41))),
  (ad 42, .inl (ca 3, 4, .inr (.inr (.inr (.inr (va_up (va_up (va_up (va_up (fun _ => none) 0 (some (ad 43))) 1 (some (ad 45))) 2 (some (ad 47))) 3 (some (ad 49)))))))),
  (ad 43, .inr (2, [.ref (ad 44), .int (M.1 43 1), .int (M.1 43 2)])),
  (ad 44, .inl (ca 0, 24, .inl (M.1 44))),
  (ad 45, .inr (2, [.ref (ad 46), .int (M.1 45 1), .int (M.1 45 2)])),
  (ad 46, .inl (ca 0, 24, .inl (M.1 46))),
  (ad 47, .inr (2, [.ref (ad 48), .int (M.1 47 1), .int (M.1 47 2)])),
  (ad 48, .inl (ca 0, 24, .inl (M.1 48))),
  (ad 49, .inr (2, [.ref (ad 50), .int (M.1 49 1), .int (M.1 49 2)])),
  (ad 50, .inl (ca 0, 24, .inl (M.1 50))),
  (ad 51, .inl (ca 0, 7, .inl (M.1 51))),
  (ad 52, .inr (7, [.ref (ad 53), .ref (ad 54), .int (N.1 0 2), .ref (ad 55), .ref (ad 56), .ref (ad 57), .ref (ad 58), .ref (ad 59), .ref (ad 60), .ref (ad 61), .ref (ad 62), .int (N.1 0 11), .int (N.1 0 12), .int (N.1 0 13), .int (N.1 0 14), .int (N.1 0 15), .ref (ad 63), .long (N.2 0 17), .ref (ad 64), .int (N.1 0 19), .int (N.1 0 20)])),
  (ad 53, .inl (ca 0, 383, .inl (N.1 1))),
  (ad 54, .inl (ca 0, 383, .inl (N.1 2))),
  (ad 55, .inl (ca 0, 7, .inl (N.1 3))),
  (ad 56, .inl (ca 0, 4, .inl (N.1 4))),
  (ad 57, .inl (ca 0, 4, .inl (N.1 5))),
  (ad 58, .inl (ca 0, 96, .inl (N.1 6))),
  (ad 59, .inl (ca 0, 60, .inl (N.1 7))),
  (ad 60, .inl (ca 0, 60, .inl (N.1 8))),
  (ad 61, .inl (ca 0, 3, .inl (N.1 9))),
  (ad 62, .inl (ca 0, 60, .inl (N.1 10))),
  (ad 63, .inl (ca 1, 10, .inr (.inl (N.2 11)))),
  (ad 64, .inl (ca 0, 30, .inl (N.1 12)))]
section NBW
variable {ad : Nat → Nat} {ca : Nat → ClassId} {M N : nb_M} {b0 : Nat}
theorem nb_len : (nb_w ad ca M N).map Prod.fst = (List.range 65).map ad := rfl
theorem nb_a0 : (nb_w ad ca M N)[0]? = some (ad 0, .inr (6, [.ref (ad 1), .ref (ad 18), .ref (ad 35), .ref (ad 38), .ref (ad 40), .ref (ad 42), .ref (ad 51), .int (M.1 0 7)])) := rfl
theorem nb_a1 : (nb_w ad ca M N)[1]? = some (ad 1, .inr (0, [.int (M.1 1 0), .int (M.1 1 1), .int (M.1 1 2), .ref (ad 2), .ref (ad 3), .ref (ad 4), .int (M.1 1 6), .ref (ad 5), .ref (ad 6), .ref (ad 7), .ref (ad 8), .ref (ad 9), .ref (ad 10), .int (M.1 1 13), .ref (ad 11), .int (M.1 1 15)])) := rfl
theorem nb_a2 : (nb_w ad ca M N)[2]? = some (ad 2, .inl (ca 0, 5, .inl (M.1 2))) := rfl
theorem nb_a3 : (nb_w ad ca M N)[3]? = some (ad 3, .inl (ca 0, 5, .inl (M.1 3))) := rfl
theorem nb_a4 : (nb_w ad ca M N)[4]? = some (ad 4, .inl (ca 0, 5, .inl (M.1 4))) := rfl
theorem nb_a5 : (nb_w ad ca M N)[5]? = some (ad 5, .inl (ca 0, 9, .inl (M.1 5))) := rfl
theorem nb_a6 : (nb_w ad ca M N)[6]? = some (ad 6, .inl (ca 0, 9, .inl (M.1 6))) := rfl
theorem nb_a7 : (nb_w ad ca M N)[7]? = some (ad 7, .inl (ca 0, 9, .inl (M.1 7))) := rfl
theorem nb_a8 : (nb_w ad ca M N)[8]? = some (ad 8, .inl (ca 0, 9, .inl (M.1 8))) := rfl
theorem nb_a9 : (nb_w ad ca M N)[9]? = some (ad 9, .inl (ca 2, 2, .inr (.inr (.inr (.inr (va_up (va_up (fun _ => none) 0 (some (ad 12))) 1 (some (ad 15)))))))) := rfl
theorem nb_a10 : (nb_w ad ca M N)[10]? = some (ad 10, .inl (ca 0, 60, .inl (M.1 10))) := rfl
theorem nb_a11 : (nb_w ad ca M N)[11]? = some (ad 11, .inl (ca 0, 24, .inl (M.1 11))) := rfl
theorem nb_a12 : (nb_w ad ca M N)[12]? = some (ad 12, .inr (3, [.ref (ad 13), .int (M.1 12 1), .ref (ad 14)])) := rfl
theorem nb_a13 : (nb_w ad ca M N)[13]? = some (ad 13, .inl (ca 0, 60, .inl (M.1 13))) := rfl
theorem nb_a14 : (nb_w ad ca M N)[14]? = some (ad 14, .inl (ca 0, 60, .inl (M.1 14))) := rfl
theorem nb_a15 : (nb_w ad ca M N)[15]? = some (ad 15, .inr (3, [.ref (ad 16), .int (M.1 15 1), .ref (ad 17)])) := rfl
theorem nb_a16 : (nb_w ad ca M N)[16]? = some (ad 16, .inl (ca 0, 60, .inl (M.1 16))) := rfl
theorem nb_a17 : (nb_w ad ca M N)[17]? = some (ad 17, .inl (ca 0, 60, .inl (M.1 17))) := rfl
theorem nb_a18 : (nb_w ad ca M N)[18]? = some (ad 18, .inr (0, [.int (M.1 18 0), .int (M.1 18 1), .int (M.1 18 2), .ref (ad 19), .ref (ad 20), .ref (ad 21), .int (M.1 18 6), .ref (ad 22), .ref (ad 23), .ref (ad 24), .ref (ad 25), .ref (ad 26), .ref (ad 27), .int (M.1 18 13), .ref (ad 28), .int (M.1 18 15)])) := rfl
theorem nb_a19 : (nb_w ad ca M N)[19]? = some (ad 19, .inl (ca 0, 5, .inl (M.1 19))) := rfl
theorem nb_a20 : (nb_w ad ca M N)[20]? = some (ad 20, .inl (ca 0, 5, .inl (M.1 20))) := rfl
theorem nb_a21 : (nb_w ad ca M N)[21]? = some (ad 21, .inl (ca 0, 5, .inl (M.1 21))) := rfl
theorem nb_a22 : (nb_w ad ca M N)[22]? = some (ad 22, .inl (ca 0, 9, .inl (M.1 22))) := rfl
theorem nb_a23 : (nb_w ad ca M N)[23]? = some (ad 23, .inl (ca 0, 9, .inl (M.1 23))) := rfl
theorem nb_a24 : (nb_w ad ca M N)[24]? = some (ad 24, .inl (ca 0, 9, .inl (M.1 24))) := rfl
theorem nb_a25 : (nb_w ad ca M N)[25]? = some (ad 25, .inl (ca 0, 9, .inl (M.1 25))) := rfl
theorem nb_a26 : (nb_w ad ca M N)[26]? = some (ad 26, .inl (ca 2, 2, .inr (.inr (.inr (.inr (va_up (va_up (fun _ => none) 0 (some (ad 29))) 1 (some (ad 32)))))))) := rfl
theorem nb_a27 : (nb_w ad ca M N)[27]? = some (ad 27, .inl (ca 0, 60, .inl (M.1 27))) := rfl
theorem nb_a28 : (nb_w ad ca M N)[28]? = some (ad 28, .inl (ca 0, 24, .inl (M.1 28))) := rfl
theorem nb_a29 : (nb_w ad ca M N)[29]? = some (ad 29, .inr (3, [.ref (ad 30), .int (M.1 29 1), .ref (ad 31)])) := rfl
theorem nb_a30 : (nb_w ad ca M N)[30]? = some (ad 30, .inl (ca 0, 60, .inl (M.1 30))) := rfl
theorem nb_a31 : (nb_w ad ca M N)[31]? = some (ad 31, .inl (ca 0, 60, .inl (M.1 31))) := rfl
theorem nb_a32 : (nb_w ad ca M N)[32]? = some (ad 32, .inr (3, [.ref (ad 33), .int (M.1 32 1), .ref (ad 34)])) := rfl
theorem nb_a33 : (nb_w ad ca M N)[33]? = some (ad 33, .inl (ca 0, 60, .inl (M.1 33))) := rfl
theorem nb_a34 : (nb_w ad ca M N)[34]? = some (ad 34, .inl (ca 0, 60, .inl (M.1 34))) := rfl
theorem nb_a35 : (nb_w ad ca M N)[35]? = some (ad 35, .inr (1, [.ref (ad 36), .int (M.1 35 1), .int (M.1 35 2), .ref (ad 37), .int (M.1 35 4), .int (M.1 35 5)])) := rfl
theorem nb_a36 : (nb_w ad ca M N)[36]? = some (ad 36, .inl (ca 0, 60, .inl (M.1 36))) := rfl
theorem nb_a37 : (nb_w ad ca M N)[37]? = some (ad 37, .inl (ca 0, 60, .inl (M.1 37))) := rfl
theorem nb_a38 : (nb_w ad ca M N)[38]? = some (ad 38, .inr (4, [.long (M.2 38 0), .long (M.2 38 1), .ref (ad 39)])) := rfl
theorem nb_a39 : (nb_w ad ca M N)[39]? = some (ad 39, .inl (ca 1, 10, .inr (.inl (M.2 39)))) := rfl
theorem nb_a40 : (nb_w ad ca M N)[40]? = some (ad 40, .inr (5, [.ref (ad 41), .int (M.1 40 1), .int (M.1 40 2), .int (M.1 40 3), .int (M.1 40 4), .int (M.1 40 5)])) := rfl
theorem nb_a41 : (nb_w ad ca M N)[41]? = some (ad 41, .inl (ca 0, 30, .inl (M.1 41))) := rfl
theorem nb_a42 : (nb_w ad ca M N)[42]? = some (ad 42, .inl (ca 3, 4, .inr (.inr (.inr (.inr (va_up (va_up (va_up (va_up (fun _ => none) 0 (some (ad 43))) 1 (some (ad 45))) 2 (some (ad 47))) 3 (some (ad 49)))))))) := rfl
theorem nb_a43 : (nb_w ad ca M N)[43]? = some (ad 43, .inr (2, [.ref (ad 44), .int (M.1 43 1), .int (M.1 43 2)])) := rfl
theorem nb_a44 : (nb_w ad ca M N)[44]? = some (ad 44, .inl (ca 0, 24, .inl (M.1 44))) := rfl
theorem nb_a45 : (nb_w ad ca M N)[45]? = some (ad 45, .inr (2, [.ref (ad 46), .int (M.1 45 1), .int (M.1 45 2)])) := rfl
theorem nb_a46 : (nb_w ad ca M N)[46]? = some (ad 46, .inl (ca 0, 24, .inl (M.1 46))) := rfl
theorem nb_a47 : (nb_w ad ca M N)[47]? = some (ad 47, .inr (2, [.ref (ad 48), .int (M.1 47 1), .int (M.1 47 2)])) := rfl
theorem nb_a48 : (nb_w ad ca M N)[48]? = some (ad 48, .inl (ca 0, 24, .inl (M.1 48))) := rfl
theorem nb_a49 : (nb_w ad ca M N)[49]? = some (ad 49, .inr (2, [.ref (ad 50), .int (M.1 49 1), .int (M.1 49 2)])) := rfl
theorem nb_a50 : (nb_w ad ca M N)[50]? = some (ad 50, .inl (ca 0, 24, .inl (M.1 50))) := rfl
theorem nb_a51 : (nb_w ad ca M N)[51]? = some (ad 51, .inl (ca 0, 7, .inl (M.1 51))) := rfl
theorem nb_a52 : (nb_w ad ca M N)[52]? = some (ad 52, .inr (7, [.ref (ad 53), .ref (ad 54), .int (N.1 0 2), .ref (ad 55), .ref (ad 56), .ref (ad 57), .ref (ad 58), .ref (ad 59), .ref (ad 60), .ref (ad 61), .ref (ad 62), .int (N.1 0 11), .int (N.1 0 12), .int (N.1 0 13), .int (N.1 0 14), .int (N.1 0 15), .ref (ad 63), .long (N.2 0 17), .ref (ad 64), .int (N.1 0 19), .int (N.1 0 20)])) := rfl
theorem nb_a53 : (nb_w ad ca M N)[53]? = some (ad 53, .inl (ca 0, 383, .inl (N.1 1))) := rfl
theorem nb_a54 : (nb_w ad ca M N)[54]? = some (ad 54, .inl (ca 0, 383, .inl (N.1 2))) := rfl
theorem nb_a55 : (nb_w ad ca M N)[55]? = some (ad 55, .inl (ca 0, 7, .inl (N.1 3))) := rfl
theorem nb_a56 : (nb_w ad ca M N)[56]? = some (ad 56, .inl (ca 0, 4, .inl (N.1 4))) := rfl
theorem nb_a57 : (nb_w ad ca M N)[57]? = some (ad 57, .inl (ca 0, 4, .inl (N.1 5))) := rfl
theorem nb_a58 : (nb_w ad ca M N)[58]? = some (ad 58, .inl (ca 0, 96, .inl (N.1 6))) := rfl
theorem nb_a59 : (nb_w ad ca M N)[59]? = some (ad 59, .inl (ca 0, 60, .inl (N.1 7))) := rfl
theorem nb_a60 : (nb_w ad ca M N)[60]? = some (ad 60, .inl (ca 0, 60, .inl (N.1 8))) := rfl
theorem nb_a61 : (nb_w ad ca M N)[61]? = some (ad 61, .inl (ca 0, 3, .inl (N.1 9))) := rfl
theorem nb_a62 : (nb_w ad ca M N)[62]? = some (ad 62, .inl (ca 0, 60, .inl (N.1 10))) := rfl
theorem nb_a63 : (nb_w ad ca M N)[63]? = some (ad 63, .inl (ca 1, 10, .inr (.inl (N.2 11)))) := rfl
theorem nb_a64 : (nb_w ad ca M N)[64]? = some (ad 64, .inl (ca 0, 30, .inl (N.1 12))) := rfl
theorem nb_p0_7 (v : Int32) : (nb_w ad ca M N).set 0 (ad 0, .inr (6, [.ref (ad 1), .ref (ad 18), .ref (ad 35), .ref (ad 38), .ref (ad 40), .ref (ad 42), .ref (ad 51), .int v])) = nb_w ad ca (nb_i M 0 7 v) N := rfl
theorem nb_p1_0 (v : Int32) : (nb_w ad ca M N).set 1 (ad 1, .inr (0, [.int v, .int (M.1 1 1), .int (M.1 1 2), .ref (ad 2), .ref (ad 3), .ref (ad 4), .int (M.1 1 6), .ref (ad 5), .ref (ad 6), .ref (ad 7), .ref (ad 8), .ref (ad 9), .ref (ad 10), .int (M.1 1 13), .ref (ad 11), .int (M.1 1 15)])) = nb_w ad ca (nb_i M 1 0 v) N := rfl
theorem nb_p1_1 (v : Int32) : (nb_w ad ca M N).set 1 (ad 1, .inr (0, [.int (M.1 1 0), .int v, .int (M.1 1 2), .ref (ad 2), .ref (ad 3), .ref (ad 4), .int (M.1 1 6), .ref (ad 5), .ref (ad 6), .ref (ad 7), .ref (ad 8), .ref (ad 9), .ref (ad 10), .int (M.1 1 13), .ref (ad 11), .int (M.1 1 15)])) = nb_w ad ca (nb_i M 1 1 v) N := rfl
theorem nb_p1_2 (v : Int32) : (nb_w ad ca M N).set 1 (ad 1, .inr (0, [.int (M.1 1 0), .int (M.1 1 1), .int v, .ref (ad 2), .ref (ad 3), .ref (ad 4), .int (M.1 1 6), .ref (ad 5), .ref (ad 6), .ref (ad 7), .ref (ad 8), .ref (ad 9), .ref (ad 10), .int (M.1 1 13), .ref (ad 11), .int (M.1 1 15)])) = nb_w ad ca (nb_i M 1 2 v) N := rfl
theorem nb_p1_6 (v : Int32) : (nb_w ad ca M N).set 1 (ad 1, .inr (0, [.int (M.1 1 0), .int (M.1 1 1), .int (M.1 1 2), .ref (ad 2), .ref (ad 3), .ref (ad 4), .int v, .ref (ad 5), .ref (ad 6), .ref (ad 7), .ref (ad 8), .ref (ad 9), .ref (ad 10), .int (M.1 1 13), .ref (ad 11), .int (M.1 1 15)])) = nb_w ad ca (nb_i M 1 6 v) N := rfl
theorem nb_p1_13 (v : Int32) : (nb_w ad ca M N).set 1 (ad 1, .inr (0, [.int (M.1 1 0), .int (M.1 1 1), .int (M.1 1 2), .ref (ad 2), .ref (ad 3), .ref (ad 4), .int (M.1 1 6), .ref (ad 5), .ref (ad 6), .ref (ad 7), .ref (ad 8), .ref (ad 9), .ref (ad 10), .int v, .ref (ad 11), .int (M.1 1 15)])) = nb_w ad ca (nb_i M 1 13 v) N := rfl
theorem nb_p1_15 (v : Int32) : (nb_w ad ca M N).set 1 (ad 1, .inr (0, [.int (M.1 1 0), .int (M.1 1 1), .int (M.1 1 2), .ref (ad 2), .ref (ad 3), .ref (ad 4), .int (M.1 1 6), .ref (ad 5), .ref (ad 6), .ref (ad 7), .ref (ad 8), .ref (ad 9), .ref (ad 10), .int (M.1 1 13), .ref (ad 11), .int v])) = nb_w ad ca (nb_i M 1 15 v) N := rfl
theorem nb_s2 (f : Nat → Int32) : (nb_w ad ca M N).set 2 (ad 2, .inl (ca 0, 5, .inl (f))) = nb_w ad ca (nb_r M 2 f) N := rfl
theorem nb_t2 (j : Nat) (v : Int32) : (nb_w ad ca M N).set 2 (ad 2, .inl (ca 0, 5, .inl ((upd (M.1 2) j v)))) = nb_w ad ca (nb_i M 2 j v) N := rfl
theorem nb_s3 (f : Nat → Int32) : (nb_w ad ca M N).set 3 (ad 3, .inl (ca 0, 5, .inl (f))) = nb_w ad ca (nb_r M 3 f) N := rfl
theorem nb_t3 (j : Nat) (v : Int32) : (nb_w ad ca M N).set 3 (ad 3, .inl (ca 0, 5, .inl ((upd (M.1 3) j v)))) = nb_w ad ca (nb_i M 3 j v) N := rfl
theorem nb_s4 (f : Nat → Int32) : (nb_w ad ca M N).set 4 (ad 4, .inl (ca 0, 5, .inl (f))) = nb_w ad ca (nb_r M 4 f) N := rfl
theorem nb_t4 (j : Nat) (v : Int32) : (nb_w ad ca M N).set 4 (ad 4, .inl (ca 0, 5, .inl ((upd (M.1 4) j v)))) = nb_w ad ca (nb_i M 4 j v) N := rfl
theorem nb_s5 (f : Nat → Int32) : (nb_w ad ca M N).set 5 (ad 5, .inl (ca 0, 9, .inl (f))) = nb_w ad ca (nb_r M 5 f) N := rfl
theorem nb_t5 (j : Nat) (v : Int32) : (nb_w ad ca M N).set 5 (ad 5, .inl (ca 0, 9, .inl ((upd (M.1 5) j v)))) = nb_w ad ca (nb_i M 5 j v) N := rfl
theorem nb_s6 (f : Nat → Int32) : (nb_w ad ca M N).set 6 (ad 6, .inl (ca 0, 9, .inl (f))) = nb_w ad ca (nb_r M 6 f) N := rfl
theorem nb_t6 (j : Nat) (v : Int32) : (nb_w ad ca M N).set 6 (ad 6, .inl (ca 0, 9, .inl ((upd (M.1 6) j v)))) = nb_w ad ca (nb_i M 6 j v) N := rfl
theorem nb_s7 (f : Nat → Int32) : (nb_w ad ca M N).set 7 (ad 7, .inl (ca 0, 9, .inl (f))) = nb_w ad ca (nb_r M 7 f) N := rfl
theorem nb_t7 (j : Nat) (v : Int32) : (nb_w ad ca M N).set 7 (ad 7, .inl (ca 0, 9, .inl ((upd (M.1 7) j v)))) = nb_w ad ca (nb_i M 7 j v) N := rfl
theorem nb_s8 (f : Nat → Int32) : (nb_w ad ca M N).set 8 (ad 8, .inl (ca 0, 9, .inl (f))) = nb_w ad ca (nb_r M 8 f) N := rfl
theorem nb_t8 (j : Nat) (v : Int32) : (nb_w ad ca M N).set 8 (ad 8, .inl (ca 0, 9, .inl ((upd (M.1 8) j v)))) = nb_w ad ca (nb_i M 8 j v) N := rfl
theorem nb_s10 (f : Nat → Int32) : (nb_w ad ca M N).set 10 (ad 10, .inl (ca 0, 60, .inl (f))) = nb_w ad ca (nb_r M 10 f) N := rfl
theorem nb_t10 (j : Nat) (v : Int32) : (nb_w ad ca M N).set 10 (ad 10, .inl (ca 0, 60, .inl ((upd (M.1 10) j v)))) = nb_w ad ca (nb_i M 10 j v) N := rfl
theorem nb_s11 (f : Nat → Int32) : (nb_w ad ca M N).set 11 (ad 11, .inl (ca 0, 24, .inl (f))) = nb_w ad ca (nb_r M 11 f) N := rfl
theorem nb_t11 (j : Nat) (v : Int32) : (nb_w ad ca M N).set 11 (ad 11, .inl (ca 0, 24, .inl ((upd (M.1 11) j v)))) = nb_w ad ca (nb_i M 11 j v) N := rfl
theorem nb_p12_1 (v : Int32) : (nb_w ad ca M N).set 12 (ad 12, .inr (3, [.ref (ad 13), .int v, .ref (ad 14)])) = nb_w ad ca (nb_i M 12 1 v) N := rfl
theorem nb_s13 (f : Nat → Int32) : (nb_w ad ca M N).set 13 (ad 13, .inl (ca 0, 60, .inl (f))) = nb_w ad ca (nb_r M 13 f) N := rfl
theorem nb_t13 (j : Nat) (v : Int32) : (nb_w ad ca M N).set 13 (ad 13, .inl (ca 0, 60, .inl ((upd (M.1 13) j v)))) = nb_w ad ca (nb_i M 13 j v) N := rfl
theorem nb_s14 (f : Nat → Int32) : (nb_w ad ca M N).set 14 (ad 14, .inl (ca 0, 60, .inl (f))) = nb_w ad ca (nb_r M 14 f) N := rfl
theorem nb_t14 (j : Nat) (v : Int32) : (nb_w ad ca M N).set 14 (ad 14, .inl (ca 0, 60, .inl ((upd (M.1 14) j v)))) = nb_w ad ca (nb_i M 14 j v) N := rfl
theorem nb_p15_1 (v : Int32) : (nb_w ad ca M N).set 15 (ad 15, .inr (3, [.ref (ad 16), .int v, .ref (ad 17)])) = nb_w ad ca (nb_i M 15 1 v) N := rfl
theorem nb_s16 (f : Nat → Int32) : (nb_w ad ca M N).set 16 (ad 16, .inl (ca 0, 60, .inl (f))) = nb_w ad ca (nb_r M 16 f) N := rfl
theorem nb_t16 (j : Nat) (v : Int32) : (nb_w ad ca M N).set 16 (ad 16, .inl (ca 0, 60, .inl ((upd (M.1 16) j v)))) = nb_w ad ca (nb_i M 16 j v) N := rfl
theorem nb_s17 (f : Nat → Int32) : (nb_w ad ca M N).set 17 (ad 17, .inl (ca 0, 60, .inl (f))) = nb_w ad ca (nb_r M 17 f) N := rfl
theorem nb_t17 (j : Nat) (v : Int32) : (nb_w ad ca M N).set 17 (ad 17, .inl (ca 0, 60, .inl ((upd (M.1 17) j v)))) = nb_w ad ca (nb_i M 17 j v) N := rfl
theorem nb_p18_0 (v : Int32) : (nb_w ad ca M N).set 18 (ad 18, .inr (0, [.int v, .int (M.1 18 1), .int (M.1 18 2), .ref (ad 19), .ref (ad 20), .ref (ad 21), .int (M.1 18 6), .ref (ad 22), .ref (ad 23), .ref (ad 24), .ref (ad 25), .ref (ad 26), .ref (ad 27), .int (M.1 18 13), .ref (ad 28), .int (M.1 18 15)])) = nb_w ad ca (nb_i M 18 0 v) N := rfl
theorem nb_p18_1 (v : Int32) : (nb_w ad ca M N).set 18 (ad 18, .inr (0, [.int (M.1 18 0), .int v, .int (M.1 18 2), .ref (ad 19), .ref (ad 20), .ref (ad 21), .int (M.1 18 6), .ref (ad 22), .ref (ad 23), .ref (ad 24), .ref (ad 25), .ref (ad 26), .ref (ad 27), .int (M.1 18 13), .ref (ad 28), .int (M.1 18 15)])) = nb_w ad ca (nb_i M 18 1 v) N := rfl
theorem nb_p18_2 (v : Int32) : (nb_w ad ca M N).set 18 (ad 18, .inr (0, [.int (M.1 18 0), .int (M.1 18 1), .int v, .ref (ad 19), .ref (ad 20), .ref (ad 21), .int (M.1 18 6), .ref (ad 22), .ref (ad 23), .ref (ad 24), .ref (ad 25), .ref (ad 26), .ref (ad 27), .int (M.1 18 13), .ref (ad 28), .int (M.1 18 15)])) = nb_w ad ca (nb_i M 18 2 v) N := rfl
theorem nb_p18_6 (v : Int32) : (nb_w ad ca M N).set 18 (ad 18, .inr (0, [.int (M.1 18 0), .int (M.1 18 1), .int (M.1 18 2), .ref (ad 19), .ref (ad 20), .ref (ad 21), .int v, .ref (ad 22), .ref (ad 23), .ref (ad 24), .ref (ad 25), .ref (ad 26), .ref (ad 27), .int (M.1 18 13), .ref (ad 28), .int (M.1 18 15)])) = nb_w ad ca (nb_i M 18 6 v) N := rfl
theorem nb_p18_13 (v : Int32) : (nb_w ad ca M N).set 18 (ad 18, .inr (0, [.int (M.1 18 0), .int (M.1 18 1), .int (M.1 18 2), .ref (ad 19), .ref (ad 20), .ref (ad 21), .int (M.1 18 6), .ref (ad 22), .ref (ad 23), .ref (ad 24), .ref (ad 25), .ref (ad 26), .ref (ad 27), .int v, .ref (ad 28), .int (M.1 18 15)])) = nb_w ad ca (nb_i M 18 13 v) N := rfl
theorem nb_p18_15 (v : Int32) : (nb_w ad ca M N).set 18 (ad 18, .inr (0, [.int (M.1 18 0), .int (M.1 18 1), .int (M.1 18 2), .ref (ad 19), .ref (ad 20), .ref (ad 21), .int (M.1 18 6), .ref (ad 22), .ref (ad 23), .ref (ad 24), .ref (ad 25), .ref (ad 26), .ref (ad 27), .int (M.1 18 13), .ref (ad 28), .int v])) = nb_w ad ca (nb_i M 18 15 v) N := rfl
theorem nb_s19 (f : Nat → Int32) : (nb_w ad ca M N).set 19 (ad 19, .inl (ca 0, 5, .inl (f))) = nb_w ad ca (nb_r M 19 f) N := rfl
theorem nb_t19 (j : Nat) (v : Int32) : (nb_w ad ca M N).set 19 (ad 19, .inl (ca 0, 5, .inl ((upd (M.1 19) j v)))) = nb_w ad ca (nb_i M 19 j v) N := rfl
theorem nb_s20 (f : Nat → Int32) : (nb_w ad ca M N).set 20 (ad 20, .inl (ca 0, 5, .inl (f))) = nb_w ad ca (nb_r M 20 f) N := rfl
theorem nb_t20 (j : Nat) (v : Int32) : (nb_w ad ca M N).set 20 (ad 20, .inl (ca 0, 5, .inl ((upd (M.1 20) j v)))) = nb_w ad ca (nb_i M 20 j v) N := rfl
theorem nb_s21 (f : Nat → Int32) : (nb_w ad ca M N).set 21 (ad 21, .inl (ca 0, 5, .inl (f))) = nb_w ad ca (nb_r M 21 f) N := rfl
theorem nb_t21 (j : Nat) (v : Int32) : (nb_w ad ca M N).set 21 (ad 21, .inl (ca 0, 5, .inl ((upd (M.1 21) j v)))) = nb_w ad ca (nb_i M 21 j v) N := rfl
theorem nb_s22 (f : Nat → Int32) : (nb_w ad ca M N).set 22 (ad 22, .inl (ca 0, 9, .inl (f))) = nb_w ad ca (nb_r M 22 f) N := rfl
theorem nb_t22 (j : Nat) (v : Int32) : (nb_w ad ca M N).set 22 (ad 22, .inl (ca 0, 9, .inl ((upd (M.1 22) j v)))) = nb_w ad ca (nb_i M 22 j v) N := rfl
theorem nb_s23 (f : Nat → Int32) : (nb_w ad ca M N).set 23 (ad 23, .inl (ca 0, 9, .inl (f))) = nb_w ad ca (nb_r M 23 f) N := rfl
theorem nb_t23 (j : Nat) (v : Int32) : (nb_w ad ca M N).set 23 (ad 23, .inl (ca 0, 9, .inl ((upd (M.1 23) j v)))) = nb_w ad ca (nb_i M 23 j v) N := rfl
theorem nb_s24 (f : Nat → Int32) : (nb_w ad ca M N).set 24 (ad 24, .inl (ca 0, 9, .inl (f))) = nb_w ad ca (nb_r M 24 f) N := rfl
theorem nb_t24 (j : Nat) (v : Int32) : (nb_w ad ca M N).set 24 (ad 24, .inl (ca 0, 9, .inl ((upd (M.1 24) j v)))) = nb_w ad ca (nb_i M 24 j v) N := rfl
theorem nb_s25 (f : Nat → Int32) : (nb_w ad ca M N).set 25 (ad 25, .inl (ca 0, 9, .inl (f))) = nb_w ad ca (nb_r M 25 f) N := rfl
theorem nb_t25 (j : Nat) (v : Int32) : (nb_w ad ca M N).set 25 (ad 25, .inl (ca 0, 9, .inl ((upd (M.1 25) j v)))) = nb_w ad ca (nb_i M 25 j v) N := rfl
theorem nb_s27 (f : Nat → Int32) : (nb_w ad ca M N).set 27 (ad 27, .inl (ca 0, 60, .inl (f))) = nb_w ad ca (nb_r M 27 f) N := rfl
theorem nb_t27 (j : Nat) (v : Int32) : (nb_w ad ca M N).set 27 (ad 27, .inl (ca 0, 60, .inl ((upd (M.1 27) j v)))) = nb_w ad ca (nb_i M 27 j v) N := rfl
theorem nb_s28 (f : Nat → Int32) : (nb_w ad ca M N).set 28 (ad 28, .inl (ca 0, 24, .inl (f))) = nb_w ad ca (nb_r M 28 f) N := rfl
theorem nb_t28 (j : Nat) (v : Int32) : (nb_w ad ca M N).set 28 (ad 28, .inl (ca 0, 24, .inl ((upd (M.1 28) j v)))) = nb_w ad ca (nb_i M 28 j v) N := rfl
theorem nb_p29_1 (v : Int32) : (nb_w ad ca M N).set 29 (ad 29, .inr (3, [.ref (ad 30), .int v, .ref (ad 31)])) = nb_w ad ca (nb_i M 29 1 v) N := rfl
theorem nb_s30 (f : Nat → Int32) : (nb_w ad ca M N).set 30 (ad 30, .inl (ca 0, 60, .inl (f))) = nb_w ad ca (nb_r M 30 f) N := rfl
theorem nb_t30 (j : Nat) (v : Int32) : (nb_w ad ca M N).set 30 (ad 30, .inl (ca 0, 60, .inl ((upd (M.1 30) j v)))) = nb_w ad ca (nb_i M 30 j v) N := rfl
theorem nb_s31 (f : Nat → Int32) : (nb_w ad ca M N).set 31 (ad 31, .inl (ca 0, 60, .inl (f))) = nb_w ad ca (nb_r M 31 f) N := rfl
theorem nb_t31 (j : Nat) (v : Int32) : (nb_w ad ca M N).set 31 (ad 31, .inl (ca 0, 60, .inl ((upd (M.1 31) j v)))) = nb_w ad ca (nb_i M 31 j v) N := rfl
theorem nb_p32_1 (v : Int32) : (nb_w ad ca M N).set 32 (ad 32, .inr (3, [.ref (ad 33), .int v, .ref (ad 34)])) = nb_w ad ca (nb_i M 32 1 v) N := rfl
theorem nb_s33 (f : Nat → Int32) : (nb_w ad ca M N).set 33 (ad 33, .inl (ca 0, 60, .inl (f))) = nb_w ad ca (nb_r M 33 f) N := rfl
theorem nb_t33 (j : Nat) (v : Int32) : (nb_w ad ca M N).set 33 (ad 33, .inl (ca 0, 60, .inl ((upd (M.1 33) j v)))) = nb_w ad ca (nb_i M 33 j v) N := rfl
theorem nb_s34 (f : Nat → Int32) : (nb_w ad ca M N).set 34 (ad 34, .inl (ca 0, 60, .inl (f))) = nb_w ad ca (nb_r M 34 f) N := rfl
theorem nb_t34 (j : Nat) (v : Int32) : (nb_w ad ca M N).set 34 (ad 34, .inl (ca 0, 60, .inl ((upd (M.1 34) j v)))) = nb_w ad ca (nb_i M 34 j v) N := rfl
theorem nb_p35_1 (v : Int32) : (nb_w ad ca M N).set 35 (ad 35, .inr (1, [.ref (ad 36), .int v, .int (M.1 35 2), .ref (ad 37), .int (M.1 35 4), .int (M.1 35 5)])) = nb_w ad ca (nb_i M 35 1 v) N := rfl
theorem nb_p35_2 (v : Int32) : (nb_w ad ca M N).set 35 (ad 35, .inr (1, [.ref (ad 36), .int (M.1 35 1), .int v, .ref (ad 37), .int (M.1 35 4), .int (M.1 35 5)])) = nb_w ad ca (nb_i M 35 2 v) N := rfl
theorem nb_p35_4 (v : Int32) : (nb_w ad ca M N).set 35 (ad 35, .inr (1, [.ref (ad 36), .int (M.1 35 1), .int (M.1 35 2), .ref (ad 37), .int v, .int (M.1 35 5)])) = nb_w ad ca (nb_i M 35 4 v) N := rfl
theorem nb_p35_5 (v : Int32) : (nb_w ad ca M N).set 35 (ad 35, .inr (1, [.ref (ad 36), .int (M.1 35 1), .int (M.1 35 2), .ref (ad 37), .int (M.1 35 4), .int v])) = nb_w ad ca (nb_i M 35 5 v) N := rfl
theorem nb_s36 (f : Nat → Int32) : (nb_w ad ca M N).set 36 (ad 36, .inl (ca 0, 60, .inl (f))) = nb_w ad ca (nb_r M 36 f) N := rfl
theorem nb_t36 (j : Nat) (v : Int32) : (nb_w ad ca M N).set 36 (ad 36, .inl (ca 0, 60, .inl ((upd (M.1 36) j v)))) = nb_w ad ca (nb_i M 36 j v) N := rfl
theorem nb_s37 (f : Nat → Int32) : (nb_w ad ca M N).set 37 (ad 37, .inl (ca 0, 60, .inl (f))) = nb_w ad ca (nb_r M 37 f) N := rfl
theorem nb_t37 (j : Nat) (v : Int32) : (nb_w ad ca M N).set 37 (ad 37, .inl (ca 0, 60, .inl ((upd (M.1 37) j v)))) = nb_w ad ca (nb_i M 37 j v) N := rfl
theorem nb_p38_0 (v : Int64) : (nb_w ad ca M N).set 38 (ad 38, .inr (4, [.long v, .long (M.2 38 1), .ref (ad 39)])) = nb_w ad ca (nb_l M 38 0 v) N := rfl
theorem nb_p38_1 (v : Int64) : (nb_w ad ca M N).set 38 (ad 38, .inr (4, [.long (M.2 38 0), .long v, .ref (ad 39)])) = nb_w ad ca (nb_l M 38 1 v) N := rfl
theorem nb_s39 (j : Nat) (v : Int64) : (nb_w ad ca M N).set 39 (ad 39, .inl (ca 1, 10, .inr (.inl (vp_updL (M.2 39) j v)))) = nb_w ad ca (nb_l M 39 j v) N := rfl
theorem nb_p40_1 (v : Int32) : (nb_w ad ca M N).set 40 (ad 40, .inr (5, [.ref (ad 41), .int v, .int (M.1 40 2), .int (M.1 40 3), .int (M.1 40 4), .int (M.1 40 5)])) = nb_w ad ca (nb_i M 40 1 v) N := rfl
theorem nb_p40_2 (v : Int32) : (nb_w ad ca M N).set 40 (ad 40, .inr (5, [.ref (ad 41), .int (M.1 40 1), .int v, .int (M.1 40 3), .int (M.1 40 4), .int (M.1 40 5)])) = nb_w ad ca (nb_i M 40 2 v) N := rfl
theorem nb_p40_3 (v : Int32) : (nb_w ad ca M N).set 40 (ad 40, .inr (5, [.ref (ad 41), .int (M.1 40 1), .int (M.1 40 2), .int v, .int (M.1 40 4), .int (M.1 40 5)])) = nb_w ad ca (nb_i M 40 3 v) N := rfl
theorem nb_p40_4 (v : Int32) : (nb_w ad ca M N).set 40 (ad 40, .inr (5, [.ref (ad 41), .int (M.1 40 1), .int (M.1 40 2), .int (M.1 40 3), .int v, .int (M.1 40 5)])) = nb_w ad ca (nb_i M 40 4 v) N := rfl
theorem nb_p40_5 (v : Int32) : (nb_w ad ca M N).set 40 (ad 40, .inr (5, [.ref (ad 41), .int (M.1 40 1), .int (M.1 40 2), .int (M.1 40 3), .int (M.1 40 4), .int v])) = nb_w ad ca (nb_i M 40 5 v) N := rfl
theorem nb_s41 (f : Nat → Int32) : (nb_w ad ca M N).set 41 (ad 41, .inl (ca 0, 30, .inl (f))) = nb_w ad ca (nb_r M 41 f) N := rfl
theorem nb_t41 (j : Nat) (v : Int32) : (nb_w ad ca M N).set 41 (ad 41, .inl (ca 0, 30, .inl ((upd (M.1 41) j v)))) = nb_w ad ca (nb_i M 41 j v) N := rfl
theorem nb_p43_1 (v : Int32) : (nb_w ad ca M N).set 43 (ad 43, .inr (2, [.ref (ad 44), .int v, .int (M.1 43 2)])) = nb_w ad ca (nb_i M 43 1 v) N := rfl
theorem nb_p43_2 (v : Int32) : (nb_w ad ca M N).set 43 (ad 43, .inr (2, [.ref (ad 44), .int (M.1 43 1), .int v])) = nb_w ad ca (nb_i M 43 2 v) N := rfl
theorem nb_s44 (f : Nat → Int32) : (nb_w ad ca M N).set 44 (ad 44, .inl (ca 0, 24, .inl (f))) = nb_w ad ca (nb_r M 44 f) N := rfl
theorem nb_t44 (j : Nat) (v : Int32) : (nb_w ad ca M N).set 44 (ad 44, .inl (ca 0, 24, .inl ((upd (M.1 44) j v)))) = nb_w ad ca (nb_i M 44 j v) N := rfl
theorem nb_p45_1 (v : Int32) : (nb_w ad ca M N).set 45 (ad 45, .inr (2, [.ref (ad 46), .int v, .int (M.1 45 2)])) = nb_w ad ca (nb_i M 45 1 v) N := rfl
theorem nb_p45_2 (v : Int32) : (nb_w ad ca M N).set 45 (ad 45, .inr (2, [.ref (ad 46), .int (M.1 45 1), .int v])) = nb_w ad ca (nb_i M 45 2 v) N := rfl
theorem nb_s46 (f : Nat → Int32) : (nb_w ad ca M N).set 46 (ad 46, .inl (ca 0, 24, .inl (f))) = nb_w ad ca (nb_r M 46 f) N := rfl
theorem nb_t46 (j : Nat) (v : Int32) : (nb_w ad ca M N).set 46 (ad 46, .inl (ca 0, 24, .inl ((upd (M.1 46) j v)))) = nb_w ad ca (nb_i M 46 j v) N := rfl
theorem nb_p47_1 (v : Int32) : (nb_w ad ca M N).set 47 (ad 47, .inr (2, [.ref (ad 48), .int v, .int (M.1 47 2)])) = nb_w ad ca (nb_i M 47 1 v) N := rfl
theorem nb_p47_2 (v : Int32) : (nb_w ad ca M N).set 47 (ad 47, .inr (2, [.ref (ad 48), .int (M.1 47 1), .int v])) = nb_w ad ca (nb_i M 47 2 v) N := rfl
theorem nb_s48 (f : Nat → Int32) : (nb_w ad ca M N).set 48 (ad 48, .inl (ca 0, 24, .inl (f))) = nb_w ad ca (nb_r M 48 f) N := rfl
theorem nb_t48 (j : Nat) (v : Int32) : (nb_w ad ca M N).set 48 (ad 48, .inl (ca 0, 24, .inl ((upd (M.1 48) j v)))) = nb_w ad ca (nb_i M 48 j v) N := rfl
theorem nb_p49_1 (v : Int32) : (nb_w ad ca M N).set 49 (ad 49, .inr (2, [.ref (ad 50), .int v, .int (M.1 49 2)])) = nb_w ad ca (nb_i M 49 1 v) N := rfl
theorem nb_p49_2 (v : Int32) : (nb_w ad ca M N).set 49 (ad 49, .inr (2, [.ref (ad 50), .int (M.1 49 1), .int v])) = nb_w ad ca (nb_i M 49 2 v) N := rfl
theorem nb_s50 (f : Nat → Int32) : (nb_w ad ca M N).set 50 (ad 50, .inl (ca 0, 24, .inl (f))) = nb_w ad ca (nb_r M 50 f) N := rfl
theorem nb_t50 (j : Nat) (v : Int32) : (nb_w ad ca M N).set 50 (ad 50, .inl (ca 0, 24, .inl ((upd (M.1 50) j v)))) = nb_w ad ca (nb_i M 50 j v) N := rfl
theorem nb_s51 (f : Nat → Int32) : (nb_w ad ca M N).set 51 (ad 51, .inl (ca 0, 7, .inl (f))) = nb_w ad ca (nb_r M 51 f) N := rfl
theorem nb_t51 (j : Nat) (v : Int32) : (nb_w ad ca M N).set 51 (ad 51, .inl (ca 0, 7, .inl ((upd (M.1 51) j v)))) = nb_w ad ca (nb_i M 51 j v) N := rfl
theorem nb_p52_2 (v : Int32) : (nb_w ad ca M N).set 52 (ad 52, .inr (7, [.ref (ad 53), .ref (ad 54), .int v, .ref (ad 55), .ref (ad 56), .ref (ad 57), .ref (ad 58), .ref (ad 59), .ref (ad 60), .ref (ad 61), .ref (ad 62), .int (N.1 0 11), .int (N.1 0 12), .int (N.1 0 13), .int (N.1 0 14), .int (N.1 0 15), .ref (ad 63), .long (N.2 0 17), .ref (ad 64), .int (N.1 0 19), .int (N.1 0 20)])) = nb_w ad ca M (nb_i N 0 2 v) := rfl
theorem nb_p52_11 (v : Int32) : (nb_w ad ca M N).set 52 (ad 52, .inr (7, [.ref (ad 53), .ref (ad 54), .int (N.1 0 2), .ref (ad 55), .ref (ad 56), .ref (ad 57), .ref (ad 58), .ref (ad 59), .ref (ad 60), .ref (ad 61), .ref (ad 62), .int v, .int (N.1 0 12), .int (N.1 0 13), .int (N.1 0 14), .int (N.1 0 15), .ref (ad 63), .long (N.2 0 17), .ref (ad 64), .int (N.1 0 19), .int (N.1 0 20)])) = nb_w ad ca M (nb_i N 0 11 v) := rfl
theorem nb_p52_12 (v : Int32) : (nb_w ad ca M N).set 52 (ad 52, .inr (7, [.ref (ad 53), .ref (ad 54), .int (N.1 0 2), .ref (ad 55), .ref (ad 56), .ref (ad 57), .ref (ad 58), .ref (ad 59), .ref (ad 60), .ref (ad 61), .ref (ad 62), .int (N.1 0 11), .int v, .int (N.1 0 13), .int (N.1 0 14), .int (N.1 0 15), .ref (ad 63), .long (N.2 0 17), .ref (ad 64), .int (N.1 0 19), .int (N.1 0 20)])) = nb_w ad ca M (nb_i N 0 12 v) := rfl
theorem nb_p52_13 (v : Int32) : (nb_w ad ca M N).set 52 (ad 52, .inr (7, [.ref (ad 53), .ref (ad 54), .int (N.1 0 2), .ref (ad 55), .ref (ad 56), .ref (ad 57), .ref (ad 58), .ref (ad 59), .ref (ad 60), .ref (ad 61), .ref (ad 62), .int (N.1 0 11), .int (N.1 0 12), .int v, .int (N.1 0 14), .int (N.1 0 15), .ref (ad 63), .long (N.2 0 17), .ref (ad 64), .int (N.1 0 19), .int (N.1 0 20)])) = nb_w ad ca M (nb_i N 0 13 v) := rfl
theorem nb_p52_14 (v : Int32) : (nb_w ad ca M N).set 52 (ad 52, .inr (7, [.ref (ad 53), .ref (ad 54), .int (N.1 0 2), .ref (ad 55), .ref (ad 56), .ref (ad 57), .ref (ad 58), .ref (ad 59), .ref (ad 60), .ref (ad 61), .ref (ad 62), .int (N.1 0 11), .int (N.1 0 12), .int (N.1 0 13), .int v, .int (N.1 0 15), .ref (ad 63), .long (N.2 0 17), .ref (ad 64), .int (N.1 0 19), .int (N.1 0 20)])) = nb_w ad ca M (nb_i N 0 14 v) := rfl
theorem nb_p52_15 (v : Int32) : (nb_w ad ca M N).set 52 (ad 52, .inr (7, [.ref (ad 53), .ref (ad 54), .int (N.1 0 2), .ref (ad 55), .ref (ad 56), .ref (ad 57), .ref (ad 58), .ref (ad 59), .ref (ad 60), .ref (ad 61), .ref (ad 62), .int (N.1 0 11), .int (N.1 0 12), .int (N.1 0 13), .int (N.1 0 14), .int v, .ref (ad 63), .long (N.2 0 17), .ref (ad 64), .int (N.1 0 19), .int (N.1 0 20)])) = nb_w ad ca M (nb_i N 0 15 v) := rfl
theorem nb_p52_17 (v : Int64) : (nb_w ad ca M N).set 52 (ad 52, .inr (7, [.ref (ad 53), .ref (ad 54), .int (N.1 0 2), .ref (ad 55), .ref (ad 56), .ref (ad 57), .ref (ad 58), .ref (ad 59), .ref (ad 60), .ref (ad 61), .ref (ad 62), .int (N.1 0 11), .int (N.1 0 12), .int (N.1 0 13), .int (N.1 0 14), .int (N.1 0 15), .ref (ad 63), .long v, .ref (ad 64), .int (N.1 0 19), .int (N.1 0 20)])) = nb_w ad ca M (nb_l N 0 17 v) := rfl
theorem nb_p52_19 (v : Int32) : (nb_w ad ca M N).set 52 (ad 52, .inr (7, [.ref (ad 53), .ref (ad 54), .int (N.1 0 2), .ref (ad 55), .ref (ad 56), .ref (ad 57), .ref (ad 58), .ref (ad 59), .ref (ad 60), .ref (ad 61), .ref (ad 62), .int (N.1 0 11), .int (N.1 0 12), .int (N.1 0 13), .int (N.1 0 14), .int (N.1 0 15), .ref (ad 63), .long (N.2 0 17), .ref (ad 64), .int v, .int (N.1 0 20)])) = nb_w ad ca M (nb_i N 0 19 v) := rfl
theorem nb_p52_20 (v : Int32) : (nb_w ad ca M N).set 52 (ad 52, .inr (7, [.ref (ad 53), .ref (ad 54), .int (N.1 0 2), .ref (ad 55), .ref (ad 56), .ref (ad 57), .ref (ad 58), .ref (ad 59), .ref (ad 60), .ref (ad 61), .ref (ad 62), .int (N.1 0 11), .int (N.1 0 12), .int (N.1 0 13), .int (N.1 0 14), .int (N.1 0 15), .ref (ad 63), .long (N.2 0 17), .ref (ad 64), .int (N.1 0 19), .int v])) = nb_w ad ca M (nb_i N 0 20 v) := rfl
theorem nb_s53 (f : Nat → Int32) : (nb_w ad ca M N).set 53 (ad 53, .inl (ca 0, 383, .inl (f))) = nb_w ad ca M (nb_r N 1 f) := rfl
theorem nb_t53 (j : Nat) (v : Int32) : (nb_w ad ca M N).set 53 (ad 53, .inl (ca 0, 383, .inl ((upd (N.1 1) j v)))) = nb_w ad ca M (nb_i N 1 j v) := rfl
theorem nb_s54 (f : Nat → Int32) : (nb_w ad ca M N).set 54 (ad 54, .inl (ca 0, 383, .inl (f))) = nb_w ad ca M (nb_r N 2 f) := rfl
theorem nb_t54 (j : Nat) (v : Int32) : (nb_w ad ca M N).set 54 (ad 54, .inl (ca 0, 383, .inl ((upd (N.1 2) j v)))) = nb_w ad ca M (nb_i N 2 j v) := rfl
theorem nb_s55 (f : Nat → Int32) : (nb_w ad ca M N).set 55 (ad 55, .inl (ca 0, 7, .inl (f))) = nb_w ad ca M (nb_r N 3 f) := rfl
theorem nb_t55 (j : Nat) (v : Int32) : (nb_w ad ca M N).set 55 (ad 55, .inl (ca 0, 7, .inl ((upd (N.1 3) j v)))) = nb_w ad ca M (nb_i N 3 j v) := rfl
theorem nb_s56 (f : Nat → Int32) : (nb_w ad ca M N).set 56 (ad 56, .inl (ca 0, 4, .inl (f))) = nb_w ad ca M (nb_r N 4 f) := rfl
theorem nb_t56 (j : Nat) (v : Int32) : (nb_w ad ca M N).set 56 (ad 56, .inl (ca 0, 4, .inl ((upd (N.1 4) j v)))) = nb_w ad ca M (nb_i N 4 j v) := rfl
theorem nb_s57 (f : Nat → Int32) : (nb_w ad ca M N).set 57 (ad 57, .inl (ca 0, 4, .inl (f))) = nb_w ad ca M (nb_r N 5 f) := rfl
theorem nb_t57 (j : Nat) (v : Int32) : (nb_w ad ca M N).set 57 (ad 57, .inl (ca 0, 4, .inl ((upd (N.1 5) j v)))) = nb_w ad ca M (nb_i N 5 j v) := rfl
theorem nb_s58 (f : Nat → Int32) : (nb_w ad ca M N).set 58 (ad 58, .inl (ca 0, 96, .inl (f))) = nb_w ad ca M (nb_r N 6 f) := rfl
theorem nb_t58 (j : Nat) (v : Int32) : (nb_w ad ca M N).set 58 (ad 58, .inl (ca 0, 96, .inl ((upd (N.1 6) j v)))) = nb_w ad ca M (nb_i N 6 j v) := rfl
theorem nb_s59 (f : Nat → Int32) : (nb_w ad ca M N).set 59 (ad 59, .inl (ca 0, 60, .inl (f))) = nb_w ad ca M (nb_r N 7 f) := rfl
theorem nb_t59 (j : Nat) (v : Int32) : (nb_w ad ca M N).set 59 (ad 59, .inl (ca 0, 60, .inl ((upd (N.1 7) j v)))) = nb_w ad ca M (nb_i N 7 j v) := rfl
theorem nb_s60 (f : Nat → Int32) : (nb_w ad ca M N).set 60 (ad 60, .inl (ca 0, 60, .inl (f))) = nb_w ad ca M (nb_r N 8 f) := rfl
theorem nb_t60 (j : Nat) (v : Int32) : (nb_w ad ca M N).set 60 (ad 60, .inl (ca 0, 60, .inl ((upd (N.1 8) j v)))) = nb_w ad ca M (nb_i N 8 j v) := rfl
theorem nb_s61 (f : Nat → Int32) : (nb_w ad ca M N).set 61 (ad 61, .inl (ca 0, 3, .inl (f))) = nb_w ad ca M (nb_r N 9 f) := rfl
theorem nb_t61 (j : Nat) (v : Int32) : (nb_w ad ca M N).set 61 (ad 61, .inl (ca 0, 3, .inl ((upd (N.1 9) j v)))) = nb_w ad ca M (nb_i N 9 j v) := rfl
theorem nb_s62 (f : Nat → Int32) : (nb_w ad ca M N).set 62 (ad 62, .inl (ca 0, 60, .inl (f))) = nb_w ad ca M (nb_r N 10 f) := rfl
theorem nb_t62 (j : Nat) (v : Int32) : (nb_w ad ca M N).set 62 (ad 62, .inl (ca 0, 60, .inl ((upd (N.1 10) j v)))) = nb_w ad ca M (nb_i N 10 j v) := rfl
theorem nb_s63 (j : Nat) (v : Int64) : (nb_w ad ca M N).set 63 (ad 63, .inl (ca 1, 10, .inr (.inl (vp_updL (N.2 11) j v)))) = nb_w ad ca M (nb_l N 11 j v) := rfl
theorem nb_s64 (f : Nat → Int32) : (nb_w ad ca M N).set 64 (ad 64, .inl (ca 0, 30, .inl (f))) = nb_w ad ca M (nb_r N 12 f) := rfl
theorem nb_t64 (j : Nat) (v : Int32) : (nb_w ad ca M N).set 64 (ad 64, .inl (ca 0, 30, .inl ((upd (N.1 12) j v)))) = nb_w ad ca M (nb_i N 12 j v) := rfl
end NBW
