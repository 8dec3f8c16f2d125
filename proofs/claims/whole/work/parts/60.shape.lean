/-! THE SHAPE OF THE CELLS after the two constructors (gen/shape.py): 0 .. 58 the class's, 59 .. 73 the reference's -/
def wi (w : sm_W) (k : Nat) : Nat → Int32 := match w[k]? with
  | some (.inl (_, _, .inl f)) => f
  | _ => fun _ => 0
def wl (w : sm_W) (k : Nat) : Nat → Int64 := match w[k]? with
  | some (.inl (_, _, .inr (.inl f))) => f
  | _ => fun _ => 0
def wv (w : sm_W) (k j : Nat) : Value := match w[k]? with
  | some (.inr (_, fs)) => fs.getD j .null
  | _ => .null
def wn (w : sm_W) (k j : Nat) : Int32 := match wv w k j with
  | .int x => x
  | _ => 0
def wr (w : sm_W) (k j : Nat) : Nat := match wv w k j with
  | .ref x => x
  | _ => 0
def zr3 : Nat → Option Nat := fun i => [some 104, some 105, some 106, some 107].getD i none
def zr8 : Nat → Option Nat := fun i => [some 109, some 110, some 111, some 112].getD i none
def zr17 : Nat → Option Nat := fun i => [some 118, some 119, some 120, some 121].getD i none
def zr22 : Nat → Option Nat := fun i => [some 123, some 124, some 125, some 126].getD i none
def zr32 : Nat → Option Nat := fun i => [some 133, some 136, some 139, some 142].getD i none
def zr46 : Nat → Option Nat := fun i => [some 147, some 149, some 151, some 153].getD i none
/-- cell k, with what it holds -/
def sh (w : sm_W) (k : Nat) : sm_C := match k with
  | 0 => .inr (6, [.ref 101, .ref 115, .ref 129, .ref 132, .ref 145, .ref 155, .int (wn w 0 6), .int (wn w 0 7), .int (wn w 0 8)])
  | 1 => .inr (0, [.ref 102, .ref 103, .ref 108, .ref 113, .ref 114, .int (wn w 1 5)])
  | 2 => .inl (0, 6, .inl (wi w 2))
  | 3 => .inl (2, 4, .inr (.inr (.inr (.inr (zr3)))))
  | 4 => .inl (0, 4, .inl (wi w 4))
  | 5 => .inl (0, 4, .inl (wi w 5))
  | 6 => .inl (0, 4, .inl (wi w 6))
  | 7 => .inl (0, 4, .inl (wi w 7))
  | 8 => .inl (2, 4, .inr (.inr (.inr (.inr (zr8)))))
  | 9 => .inl (0, 12, .inl (wi w 9))
  | 10 => .inl (0, 12, .inl (wi w 10))
  | 11 => .inl (0, 12, .inl (wi w 11))
  | 12 => .inl (0, 12, .inl (wi w 12))
  | 13 => .inl (0, 6, .inl (wi w 13))
  | 14 => .inl (0, 8, .inl (wi w 14))
  | 15 => .inr (0, [.ref 116, .ref 117, .ref 122, .ref 127, .ref 128, .int (wn w 15 5)])
  | 16 => .inl (0, 6, .inl (wi w 16))
  | 17 => .inl (2, 4, .inr (.inr (.inr (.inr (zr17)))))
  | 18 => .inl (0, 4, .inl (wi w 18))
  | 19 => .inl (0, 4, .inl (wi w 19))
  | 20 => .inl (0, 4, .inl (wi w 20))
  | 21 => .inl (0, 4, .inl (wi w 21))
  | 22 => .inl (2, 4, .inr (.inr (.inr (.inr (zr22)))))
  | 23 => .inl (0, 12, .inl (wi w 23))
  | 24 => .inl (0, 12, .inl (wi w 24))
  | 25 => .inl (0, 12, .inl (wi w 25))
  | 26 => .inl (0, 12, .inl (wi w 26))
  | 27 => .inl (0, 6, .inl (wi w 27))
  | 28 => .inl (0, 8, .inl (wi w 28))
  | 29 => .inr (3, [.ref 130, .ref 131, .int (wn w 29 2)])
  | 30 => .inl (0, 32, .inl (wi w 30))
  | 31 => .inl (0, 32, .inl (wi w 31))
  | 32 => .inl (3, 4, .inr (.inr (.inr (.inr (zr32)))))
  | 33 => .inr (3, [.ref 134, .ref 135, .int (wn w 33 2)])
  | 34 => .inl (0, 32, .inl (wi w 34))
  | 35 => .inl (0, 32, .inl (wi w 35))
  | 36 => .inr (3, [.ref 137, .ref 138, .int (wn w 36 2)])
  | 37 => .inl (0, 32, .inl (wi w 37))
  | 38 => .inl (0, 32, .inl (wi w 38))
  | 39 => .inr (3, [.ref 140, .ref 141, .int (wn w 39 2)])
  | 40 => .inl (0, 32, .inl (wi w 40))
  | 41 => .inl (0, 32, .inl (wi w 41))
  | 42 => .inr (3, [.ref 143, .ref 144, .int (wn w 42 2)])
  | 43 => .inl (0, 32, .inl (wi w 43))
  | 44 => .inl (0, 32, .inl (wi w 44))
  | 45 => .inr (1, [.ref 146, .int (wn w 45 1)])
  | 46 => .inl (4, 4, .inr (.inr (.inr (.inr (zr46)))))
  | 47 => .inr (5, [.int (wn w 47 0), .int (wn w 47 1), .int (wn w 47 2), .int (wn w 47 3), .int (wn w 47 4), .int (wn w 47 5), .int (wn w 47 6), .int (wn w 47 7), .ref 148])
  | 48 => .inl (0, 4, .inl (wi w 48))
  | 49 => .inr (5, [.int (wn w 49 0), .int (wn w 49 1), .int (wn w 49 2), .int (wn w 49 3), .int (wn w 49 4), .int (wn w 49 5), .int (wn w 49 6), .int (wn w 49 7), .ref 150])
  | 50 => .inl (0, 4, .inl (wi w 50))
  | 51 => .inr (5, [.int (wn w 51 0), .int (wn w 51 1), .int (wn w 51 2), .int (wn w 51 3), .int (wn w 51 4), .int (wn w 51 5), .int (wn w 51 6), .int (wn w 51 7), .ref 152])
  | 52 => .inl (0, 4, .inl (wi w 52))
  | 53 => .inr (5, [.int (wn w 53 0), .int (wn w 53 1), .int (wn w 53 2), .int (wn w 53 3), .int (wn w 53 4), .int (wn w 53 5), .int (wn w 53 6), .int (wn w 53 7), .ref 154])
  | 54 => .inl (0, 4, .inl (wi w 54))
  | 55 => .inr (2, [.ref 101, .ref 145, .ref 156, .int (wn w 55 3), .int (wn w 55 4), .int (wn w 55 5), .int (wn w 55 6), .ref (wr w 55 7), .int (wn w 55 8), .int (wn w 55 9), .int (wn w 55 10)])
  | 56 => .inr (4, [.ref 157, .ref 158, .int (wn w 56 2)])
  | 57 => .inl (0, 8, .inl (wi w 57))
  | 58 => .inl (0, 8, .inl (wi w 58))
  | 59 => .inr (7, [.ref 160, .ref 161, .ref 162, .ref 163, .ref 164, .int (wn w 59 5), .ref 165, .ref 166, .ref 167, .ref 168, .ref 169, .ref 170, .int (wn w 59 12), .int (wn w 59 13), .int (wn w 59 14), .int (wn w 59 15), .int (wn w 59 16), .int (wn w 59 17), .int (wn w 59 18), .int (wn w 59 19), .int (wn w 59 20), .ref 171, .ref 172, .ref 173, .int (wn w 59 24), .int (wn w 59 25)])
  | 60 => .inl (1, 94, .inr (.inl (wl w 60)))
  | 61 => .inl (1, 94, .inr (.inl (wl w 61)))
  | 62 => .inl (0, 160, .inl (wi w 62))
  | 63 => .inl (0, 160, .inl (wi w 63))
  | 64 => .inl (0, 5, .inl (wi w 64))
  | 65 => .inl (0, 4, .inl (wi w 65))
  | 66 => .inl (0, 4, .inl (wi w 66))
  | 67 => .inl (0, 4, .inl (wi w 67))
  | 68 => .inl (0, 4, .inl (wi w 68))
  | 69 => .inl (0, 4, .inl (wi w 69))
  | 70 => .inl (1, 16, .inr (.inl (wl w 70)))
  | 71 => .inl (1, 8, .inr (.inl (wl w 71)))
  | 72 => .inl (1, 100, .inr (.inl (wl w 72)))
  | _ => .inl (1, 10, .inr (.inl (wl w 73)))
def Sh (w : sm_W) : Prop := w.length = 74 ∧ ∀ k, k < 74 → w[k]? = some (sh w k)
theorem sh0 {w : sm_W} (h : Sh w) : w[0]? = some (.inr (6, [.ref 101, .ref 115, .ref 129, .ref 132, .ref 145, .ref 155, .int (wn w 0 6), .int (wn w 0 7), .int (wn w 0 8)])) := h.2 0 (by decide)
theorem sh1 {w : sm_W} (h : Sh w) : w[1]? = some (.inr (0, [.ref 102, .ref 103, .ref 108, .ref 113, .ref 114, .int (wn w 1 5)])) := h.2 1 (by decide)
theorem sh2 {w : sm_W} (h : Sh w) : w[2]? = some (.inl (0, 6, .inl (wi w 2))) := h.2 2 (by decide)
theorem sh3 {w : sm_W} (h : Sh w) : w[3]? = some (.inl (2, 4, .inr (.inr (.inr (.inr (zr3)))))) := h.2 3 (by decide)
theorem sh4 {w : sm_W} (h : Sh w) : w[4]? = some (.inl (0, 4, .inl (wi w 4))) := h.2 4 (by decide)
theorem sh5 {w : sm_W} (h : Sh w) : w[5]? = some (.inl (0, 4, .inl (wi w 5))) := h.2 5 (by decide)
theorem sh6 {w : sm_W} (h : Sh w) : w[6]? = some (.inl (0, 4, .inl (wi w 6))) := h.2 6 (by decide)
theorem sh7 {w : sm_W} (h : Sh w) : w[7]? = some (.inl (0, 4, .inl (wi w 7))) := h.2 7 (by decide)
theorem sh8 {w : sm_W} (h : Sh w) : w[8]? = some (.inl (2, 4, .inr (.inr (.inr (.inr (zr8)))))) := h.2 8 (by decide)
theorem sh9 {w : sm_W} (h : Sh w) : w[9]? = some (.inl (0, 12, .inl (wi w 9))) := h.2 9 (by decide)
theorem sh10 {w : sm_W} (h : Sh w) : w[10]? = some (.inl (0, 12, .inl (wi w 10))) := h.2 10 (by decide)
theorem sh11 {w : sm_W} (h : Sh w) : w[11]? = some (.inl (0, 12, .inl (wi w 11))) := h.2 11 (by decide)
theorem sh12 {w : sm_W} (h : Sh w) : w[12]? = some (.inl (0, 12, .inl (wi w 12))) := h.2 12 (by decide)
theorem sh13 {w : sm_W} (h : Sh w) : w[13]? = some (.inl (0, 6, .inl (wi w 13))) := h.2 13 (by decide)
theorem sh14 {w : sm_W} (h : Sh w) : w[14]? = some (.inl (0, 8, .inl (wi w 14))) := h.2 14 (by decide)
theorem sh15 {w : sm_W} (h : Sh w) : w[15]? = some (.inr (0, [.ref 116, .ref 117, .ref 122, .ref 127, .ref 128, .int (wn w 15 5)])) := h.2 15 (by decide)
theorem sh16 {w : sm_W} (h : Sh w) : w[16]? = some (.inl (0, 6, .inl (wi w 16))) := h.2 16 (by decide)
theorem sh17 {w : sm_W} (h : Sh w) : w[17]? = some (.inl (2, 4, .inr (.inr (.inr (.inr (zr17)))))) := h.2 17 (by decide)
theorem sh18 {w : sm_W} (h : Sh w) : w[18]? = some (.inl (0, 4, .inl (wi w 18))) := h.2 18 (by decide)
theorem sh19 {w : sm_W} (h : Sh w) : w[19]? = some (.inl (0, 4, .inl (wi w 19))) := h.2 19 (by decide)
theorem sh20 {w : sm_W} (h : Sh w) : w[20]? = some (.inl (0, 4, .inl (wi w 20))) := h.2 20 (by decide)
theorem sh21 {w : sm_W} (h : Sh w) : w[21]? = some (.inl (0, 4, .inl (wi w 21))) := h.2 21 (by decide)
theorem sh22 {w : sm_W} (h : Sh w) : w[22]? = some (.inl (2, 4, .inr (.inr (.inr (.inr (zr22)))))) := h.2 22 (by decide)
theorem sh23 {w : sm_W} (h : Sh w) : w[23]? = some (.inl (0, 12, .inl (wi w 23))) := h.2 23 (by decide)
theorem sh24 {w : sm_W} (h : Sh w) : w[24]? = some (.inl (0, 12, .inl (wi w 24))) := h.2 24 (by decide)
theorem sh25 {w : sm_W} (h : Sh w) : w[25]? = some (.inl (0, 12, .inl (wi w 25))) := h.2 25 (by decide)
theorem sh26 {w : sm_W} (h : Sh w) : w[26]? = some (.inl (0, 12, .inl (wi w 26))) := h.2 26 (by decide)
theorem sh27 {w : sm_W} (h : Sh w) : w[27]? = some (.inl (0, 6, .inl (wi w 27))) := h.2 27 (by decide)
theorem sh28 {w : sm_W} (h : Sh w) : w[28]? = some (.inl (0, 8, .inl (wi w 28))) := h.2 28 (by decide)
theorem sh29 {w : sm_W} (h : Sh w) : w[29]? = some (.inr (3, [.ref 130, .ref 131, .int (wn w 29 2)])) := h.2 29 (by decide)
theorem sh30 {w : sm_W} (h : Sh w) : w[30]? = some (.inl (0, 32, .inl (wi w 30))) := h.2 30 (by decide)
theorem sh31 {w : sm_W} (h : Sh w) : w[31]? = some (.inl (0, 32, .inl (wi w 31))) := h.2 31 (by decide)
theorem sh32 {w : sm_W} (h : Sh w) : w[32]? = some (.inl (3, 4, .inr (.inr (.inr (.inr (zr32)))))) := h.2 32 (by decide)
theorem sh33 {w : sm_W} (h : Sh w) : w[33]? = some (.inr (3, [.ref 134, .ref 135, .int (wn w 33 2)])) := h.2 33 (by decide)
theorem sh34 {w : sm_W} (h : Sh w) : w[34]? = some (.inl (0, 32, .inl (wi w 34))) := h.2 34 (by decide)
theorem sh35 {w : sm_W} (h : Sh w) : w[35]? = some (.inl (0, 32, .inl (wi w 35))) := h.2 35 (by decide)
theorem sh36 {w : sm_W} (h : Sh w) : w[36]? = some (.inr (3, [.ref 137, .ref 138, .int (wn w 36 2)])) := h.2 36 (by decide)
theorem sh37 {w : sm_W} (h : Sh w) : w[37]? = some (.inl (0, 32, .inl (wi w 37))) := h.2 37 (by decide)
theorem sh38 {w : sm_W} (h : Sh w) : w[38]? = some (.inl (0, 32, .inl (wi w 38))) := h.2 38 (by decide)
theorem sh39 {w : sm_W} (h : Sh w) : w[39]? = some (.inr (3, [.ref 140, .ref 141, .int (wn w 39 2)])) := h.2 39 (by decide)
theorem sh40 {w : sm_W} (h : Sh w) : w[40]? = some (.inl (0, 32, .inl (wi w 40))) := h.2 40 (by decide)
theorem sh41 {w : sm_W} (h : Sh w) : w[41]? = some (.inl (0, 32, .inl (wi w 41))) := h.2 41 (by decide)
theorem sh42 {w : sm_W} (h : Sh w) : w[42]? = some (.inr (3, [.ref 143, .ref 144, .int (wn w 42 2)])) := h.2 42 (by decide)
theorem sh43 {w : sm_W} (h : Sh w) : w[43]? = some (.inl (0, 32, .inl (wi w 43))) := h.2 43 (by decide)
theorem sh44 {w : sm_W} (h : Sh w) : w[44]? = some (.inl (0, 32, .inl (wi w 44))) := h.2 44 (by decide)
theorem sh45 {w : sm_W} (h : Sh w) : w[45]? = some (.inr (1, [.ref 146, .int (wn w 45 1)])) := h.2 45 (by decide)
theorem sh46 {w : sm_W} (h : Sh w) : w[46]? = some (.inl (4, 4, .inr (.inr (.inr (.inr (zr46)))))) := h.2 46 (by decide)
theorem sh47 {w : sm_W} (h : Sh w) : w[47]? = some (.inr (5, [.int (wn w 47 0), .int (wn w 47 1), .int (wn w 47 2), .int (wn w 47 3), .int (wn w 47 4), .int (wn w 47 5), .int (wn w 47 6), .int (wn w 47 7), .ref 148])) := h.2 47 (by decide)
theorem sh48 {w : sm_W} (h : Sh w) : w[48]? = some (.inl (0, 4, .inl (wi w 48))) := h.2 48 (by decide)
theorem sh49 {w : sm_W} (h : Sh w) : w[49]? = some (.inr (5, [.int (wn w 49 0), .int (wn w 49 1), .int (wn w 49 2), .int (wn w 49 3), .int (wn w 49 4), .int (wn w 49 5), .int (wn w 49 6), .int (wn w 49 7), .ref 150])) := h.2 49 (by decide)
theorem sh50 {w : sm_W} (h : Sh w) : w[50]? = some (.inl (0, 4, .inl (wi w 50))) := h.2 50 (by decide)
theorem sh51 {w : sm_W} (h : Sh w) : w[51]? = some (.inr (5, [.int (wn w 51 0), .int (wn w 51 1), .int (wn w 51 2), .int (wn w 51 3), .int (wn w 51 4), .int (wn w 51 5), .int (wn w 51 6), .int (wn w 51 7), .ref 152])) := h.2 51 (by decide)
theorem sh52 {w : sm_W} (h : Sh w) : w[52]? = some (.inl (0, 4, .inl (wi w 52))) := h.2 52 (by decide)
theorem sh53 {w : sm_W} (h : Sh w) : w[53]? = some (.inr (5, [.int (wn w 53 0), .int (wn w 53 1), .int (wn w 53 2), .int (wn w 53 3), .int (wn w 53 4), .int (wn w 53 5), .int (wn w 53 6), .int (wn w 53 7), .ref 154])) := h.2 53 (by decide)
theorem sh54 {w : sm_W} (h : Sh w) : w[54]? = some (.inl (0, 4, .inl (wi w 54))) := h.2 54 (by decide)
theorem sh55 {w : sm_W} (h : Sh w) : w[55]? = some (.inr (2, [.ref 101, .ref 145, .ref 156, .int (wn w 55 3), .int (wn w 55 4), .int (wn w 55 5), .int (wn w 55 6), .ref (wr w 55 7), .int (wn w 55 8), .int (wn w 55 9), .int (wn w 55 10)])) := h.2 55 (by decide)
theorem sh56 {w : sm_W} (h : Sh w) : w[56]? = some (.inr (4, [.ref 157, .ref 158, .int (wn w 56 2)])) := h.2 56 (by decide)
theorem sh57 {w : sm_W} (h : Sh w) : w[57]? = some (.inl (0, 8, .inl (wi w 57))) := h.2 57 (by decide)
theorem sh58 {w : sm_W} (h : Sh w) : w[58]? = some (.inl (0, 8, .inl (wi w 58))) := h.2 58 (by decide)
theorem sh59 {w : sm_W} (h : Sh w) : w[59]? = some (.inr (7, [.ref 160, .ref 161, .ref 162, .ref 163, .ref 164, .int (wn w 59 5), .ref 165, .ref 166, .ref 167, .ref 168, .ref 169, .ref 170, .int (wn w 59 12), .int (wn w 59 13), .int (wn w 59 14), .int (wn w 59 15), .int (wn w 59 16), .int (wn w 59 17), .int (wn w 59 18), .int (wn w 59 19), .int (wn w 59 20), .ref 171, .ref 172, .ref 173, .int (wn w 59 24), .int (wn w 59 25)])) := h.2 59 (by decide)
theorem sh60 {w : sm_W} (h : Sh w) : w[60]? = some (.inl (1, 94, .inr (.inl (wl w 60)))) := h.2 60 (by decide)
theorem sh61 {w : sm_W} (h : Sh w) : w[61]? = some (.inl (1, 94, .inr (.inl (wl w 61)))) := h.2 61 (by decide)
theorem sh62 {w : sm_W} (h : Sh w) : w[62]? = some (.inl (0, 160, .inl (wi w 62))) := h.2 62 (by decide)
theorem sh63 {w : sm_W} (h : Sh w) : w[63]? = some (.inl (0, 160, .inl (wi w 63))) := h.2 63 (by decide)
theorem sh64 {w : sm_W} (h : Sh w) : w[64]? = some (.inl (0, 5, .inl (wi w 64))) := h.2 64 (by decide)
theorem sh65 {w : sm_W} (h : Sh w) : w[65]? = some (.inl (0, 4, .inl (wi w 65))) := h.2 65 (by decide)
theorem sh66 {w : sm_W} (h : Sh w) : w[66]? = some (.inl (0, 4, .inl (wi w 66))) := h.2 66 (by decide)
theorem sh67 {w : sm_W} (h : Sh w) : w[67]? = some (.inl (0, 4, .inl (wi w 67))) := h.2 67 (by decide)
theorem sh68 {w : sm_W} (h : Sh w) : w[68]? = some (.inl (0, 4, .inl (wi w 68))) := h.2 68 (by decide)
theorem sh69 {w : sm_W} (h : Sh w) : w[69]? = some (.inl (0, 4, .inl (wi w 69))) := h.2 69 (by decide)
theorem sh70 {w : sm_W} (h : Sh w) : w[70]? = some (.inl (1, 16, .inr (.inl (wl w 70)))) := h.2 70 (by decide)
theorem sh71 {w : sm_W} (h : Sh w) : w[71]? = some (.inl (1, 8, .inr (.inl (wl w 71)))) := h.2 71 (by decide)
theorem sh72 {w : sm_W} (h : Sh w) : w[72]? = some (.inl (1, 100, .inr (.inl (wl w 72)))) := h.2 72 (by decide)
theorem sh73 {w : sm_W} (h : Sh w) : w[73]? = some (.inl (1, 10, .inr (.inl (wl w 73)))) := h.2 73 (by decide)
theorem wi_s {w : sm_W} {k : Nat} {t n : Nat} {f : Nat → Int32} (h : k < w.length) : wi (w.set k (.inl (t, n, .inl f))) k = f := by
  unfold wi
  rw [List.getElem?_set_self h]
theorem wl_s {w : sm_W} {k : Nat} {t n : Nat} {f : Nat → Int64} (h : k < w.length) : wl (w.set k (.inl (t, n, .inr (.inl f)))) k = f := by
  unfold wl
  rw [List.getElem?_set_self h]
theorem wv_s {w : sm_W} {k j : Nat} {ci : Nat} {fs : List Value} (h : k < w.length) : wv (w.set k (.inr (ci, fs))) k j = fs.getD j .null := by
  unfold wv
  rw [List.getElem?_set_self h]
theorem wi_o {w : sm_W} {k j : Nat} {c : sm_C} (h : ¬ k = j) : wi (w.set k c) j = wi w j := by
  unfold wi
  rw [List.getElem?_set_ne h]
theorem wl_o {w : sm_W} {k j : Nat} {c : sm_C} (h : ¬ k = j) : wl (w.set k c) j = wl w j := by
  unfold wl
  rw [List.getElem?_set_ne h]
theorem wv_o {w : sm_W} {k j i : Nat} {c : sm_C} (h : ¬ k = j) : wv (w.set k c) j i = wv w j i := by
  unfold wv
  rw [List.getElem?_set_ne h]
theorem wn_o {w : sm_W} {k j i : Nat} {c : sm_C} (h : ¬ k = j) : wn (w.set k c) j i = wn w j i := by
  unfold wn
  rw [wv_o h]
theorem wr_o {w : sm_W} {k j i : Nat} {c : sm_C} (h : ¬ k = j) : wr (w.set k c) j i = wr w j i := by
  unfold wr
  rw [wv_o h]
theorem wn_s {w : sm_W} {k j : Nat} {ci : Nat} {fs : List Value} (h : k < w.length) : wn (w.set k (.inr (ci, fs))) k j = match fs.getD j .null with
  | .int x => x
  | _ => 0 := by
  unfold wn
  rw [wv_s h]
theorem wr_s {w : sm_W} {k j : Nat} {ci : Nat} {fs : List Value} (h : k < w.length) : wr (w.set k (.inr (ci, fs))) k j = match fs.getD j .null with
  | .ref x => x
  | _ => 0 := by
  unfold wr
  rw [wv_s h]
/-- the same cell, of its shape again -/
theorem Sh.set {w : sm_W} {k : Nat} {c : sm_C} (h : Sh w) (hk : k < 74) (hc : sh (w.set k c) k = c) (ho : ∀ j, j < 74 → ¬ k = j → sh (w.set k c) j = sh w j) : Sh (w.set k c) := by
  refine ⟨by rw [List.length_set]; exact h.1, fun j hj => ?_⟩
  by_cases e : k = j
  · subst e
    rw [List.getElem?_set_self (by rw [h.1]; exact hk), hc]
  · rw [List.getElem?_set_ne e, h.2 j hj, ho j hj e]
set_option maxHeartbeats 4000000 in
theorem sh_o {w : sm_W} {k : Nat} {c : sm_C} (j : Nat) (hj : j < 74) (h : ¬ k = j) : sh (w.set k c) j = sh w j := by
  match j, hj, h with
  | 0, _, h => simp only [sh, wn_o h, wr_o h]
  | 1, _, h => simp only [sh, wn_o h, wr_o h]
  | 2, _, h => simp only [sh, wi_o h]
  | 3, _, _ => rfl
  | 4, _, h => simp only [sh, wi_o h]
  | 5, _, h => simp only [sh, wi_o h]
  | 6, _, h => simp only [sh, wi_o h]
  | 7, _, h => simp only [sh, wi_o h]
  | 8, _, _ => rfl
  | 9, _, h => simp only [sh, wi_o h]
  | 10, _, h => simp only [sh, wi_o h]
  | 11, _, h => simp only [sh, wi_o h]
  | 12, _, h => simp only [sh, wi_o h]
  | 13, _, h => simp only [sh, wi_o h]
  | 14, _, h => simp only [sh, wi_o h]
  | 15, _, h => simp only [sh, wn_o h, wr_o h]
  | 16, _, h => simp only [sh, wi_o h]
  | 17, _, _ => rfl
  | 18, _, h => simp only [sh, wi_o h]
  | 19, _, h => simp only [sh, wi_o h]
  | 20, _, h => simp only [sh, wi_o h]
  | 21, _, h => simp only [sh, wi_o h]
  | 22, _, _ => rfl
  | 23, _, h => simp only [sh, wi_o h]
  | 24, _, h => simp only [sh, wi_o h]
  | 25, _, h => simp only [sh, wi_o h]
  | 26, _, h => simp only [sh, wi_o h]
  | 27, _, h => simp only [sh, wi_o h]
  | 28, _, h => simp only [sh, wi_o h]
  | 29, _, h => simp only [sh, wn_o h, wr_o h]
  | 30, _, h => simp only [sh, wi_o h]
  | 31, _, h => simp only [sh, wi_o h]
  | 32, _, _ => rfl
  | 33, _, h => simp only [sh, wn_o h, wr_o h]
  | 34, _, h => simp only [sh, wi_o h]
  | 35, _, h => simp only [sh, wi_o h]
  | 36, _, h => simp only [sh, wn_o h, wr_o h]
  | 37, _, h => simp only [sh, wi_o h]
  | 38, _, h => simp only [sh, wi_o h]
  | 39, _, h => simp only [sh, wn_o h, wr_o h]
  | 40, _, h => simp only [sh, wi_o h]
  | 41, _, h => simp only [sh, wi_o h]
  | 42, _, h => simp only [sh, wn_o h, wr_o h]
  | 43, _, h => simp only [sh, wi_o h]
  | 44, _, h => simp only [sh, wi_o h]
  | 45, _, h => simp only [sh, wn_o h, wr_o h]
  | 46, _, _ => rfl
  | 47, _, h => simp only [sh, wn_o h, wr_o h]
  | 48, _, h => simp only [sh, wi_o h]
  | 49, _, h => simp only [sh, wn_o h, wr_o h]
  | 50, _, h => simp only [sh, wi_o h]
  | 51, _, h => simp only [sh, wn_o h, wr_o h]
  | 52, _, h => simp only [sh, wi_o h]
  | 53, _, h => simp only [sh, wn_o h, wr_o h]
  | 54, _, h => simp only [sh, wi_o h]
  | 55, _, h => simp only [sh, wn_o h, wr_o h]
  | 56, _, h => simp only [sh, wn_o h, wr_o h]
  | 57, _, h => simp only [sh, wi_o h]
  | 58, _, h => simp only [sh, wi_o h]
  | 59, _, h => simp only [sh, wn_o h, wr_o h]
  | 60, _, h => simp only [sh, wl_o h]
  | 61, _, h => simp only [sh, wl_o h]
  | 62, _, h => simp only [sh, wi_o h]
  | 63, _, h => simp only [sh, wi_o h]
  | 64, _, h => simp only [sh, wi_o h]
  | 65, _, h => simp only [sh, wi_o h]
  | 66, _, h => simp only [sh, wi_o h]
  | 67, _, h => simp only [sh, wi_o h]
  | 68, _, h => simp only [sh, wi_o h]
  | 69, _, h => simp only [sh, wi_o h]
  | 70, _, h => simp only [sh, wl_o h]
  | 71, _, h => simp only [sh, wl_o h]
  | 72, _, h => simp only [sh, wl_o h]
  | 73, _, h => simp only [sh, wl_o h]
  | n + 74, hj, _ => exact absurd hj (by omega)
theorem Sh.put {w : sm_W} {k : Nat} {c : sm_C} (h : Sh w) (hk : k < 74) (hc : sh (w.set k c) k = c) : Sh (w.set k c) := h.set hk hc (fun j hj e => sh_o j hj e)
