/-! THE THIRD MAKE: exact runs, told in Int, instruction by instruction (printed by mkx.py) -/
section
abbrev xA : Type := Nat → Int → Int
abbrev xB : Type := Nat → Int → Int64
/-- the shapes, once all is made -/
def xZ : List pmZ := [(11, 13, [some 1, some 3, some 7, some 13, some 21, some 26, some 31, some 33, some 34, some 43, some 45, some 79, none]), (6, 5, [some 2, none, none, none, none]), (50, 400, []), (5, 6, [some 4, some 5, some 6, none, none, none]), (50, 62, []), (50, 7, []), (50, 49, []), (9, 5, [some 8, some 9, some 10, some 11, some 12]), (50, 480, []), (50, 12, []), (50, 12, []), (50, 12, []), (50, 4, []), (2, 8, [some 14, some 15, some 16, some 17, some 18, some 19, some 20, none]), (50, 24, []), (50, 24, []), (50, 24, []), (50, 24, []), (50, 24, []), (50, 24, []), (50, 6, []), (10, 13, [some 22, some 23, some 24, some 25, none, none, none, none, none, none, none, none, none]), (51, 4, []), (50, 24, []), (50, 6, []), (50, 3, []), (10, 13, [some 27, some 28, some 29, some 30, none, none, none, none, none, none, none, none, none]), (51, 4, []), (50, 24, []), (50, 6, []), (50, 3, []), (8, 3, [some 1, some 32, none]), (50, 40, []), (1, 5, [some 1, some 13, none, none, none]), (3, 15, [some 3, some 7, some 35, some 36, some 37, some 38, some 39, some 40, some 41, some 42, none, none, none, none, none]), (51, 512, []), (51, 512, []), (50, 40, []), (50, 40, []), (50, 4, []), (50, 4, []), (50, 5, []), (50, 5, []), (4, 4, [some 3, some 13, some 34, some 44]), (50, 4, []), (7, 5, [some 3, some 43, some 46, some 62, some 78]), (54, 3, [some 47, some 52, some 57]), (10, 13, [some 48, some 49, some 50, some 51, none, none, none, none, none, none, none, none, none]), (51, 4, []), (50, 24, []), (50, 6, []), (50, 3, []), (10, 13, [some 53, some 54, some 55, some 56, none, none, none, none, none, none, none, none, none]), (51, 4, []), (50, 24, []), (50, 6, []), (50, 3, []), (10, 13, [some 58, some 59, some 60, some 61, none, none, none, none, none, none, none, none, none]), (51, 4, []), (50, 24, []), (50, 6, []), (50, 3, []), (54, 3, [some 63, some 68, some 73]), (10, 13, [some 64, some 65, some 66, some 67, none, none, none, none, none, none, none, none, none]), (51, 4, []), (50, 24, []), (50, 6, []), (50, 3, []), (10, 13, [some 69, some 70, some 71, some 72, none, none, none, none, none, none, none, none, none]), (51, 4, []), (50, 24, []), (50, 6, []), (50, 3, []), (10, 13, [some 74, some 75, some 76, some 77, none, none, none, none, none, none, none, none, none]), (51, 4, []), (50, 24, []), (50, 6, []), (50, 3, []), (50, 3, []), (0, 7, [some 3, some 43, some 45, some 80, some 85, some 86, none]), (10, 13, [some 81, some 82, some 83, some 84, none, none, none, none, none, none, none, none, none]), (51, 4, []), (50, 24, []), (50, 6, []), (50, 3, []), (50, 244, []), (50, 61, []), (12, 54, [some 88, some 89, none, none, none, some 90, some 91, some 92, some 93, none, none, none, none, none, none, none, some 94, some 95, some 96, some 97, some 98, some 99, none, some 100, some 101, some 102, some 103, some 104, some 105, some 106, some 107, some 108, some 109, none, none, some 110, some 111, some 112, some 113, some 114, some 115, none, none, none, some 116, some 117, some 118, some 119, some 120, some 121, some 122, some 123, some 124, some 125]), (50, 120, []), (50, 1200, []), (52, 49, []), (52, 5, []), (50, 7, []), (53, 400, []), (50, 60, []), (50, 60, []), (50, 4, []), (50, 12, []), (50, 12, []), (50, 720, []), (50, 6, []), (50, 24, []), (50, 48, []), (50, 48, []), (50, 48, []), (50, 48, []), (50, 24, []), (52, 48, []), (50, 50, []), (52, 60, []), (50, 4, []), (50, 4, []), (50, 5, []), (50, 5, []), (51, 4096, []), (50, 4096, []), (50, 4, []), (50, 4, []), (50, 4, []), (52, 4, []), (50, 244, []), (50, 244, []), (50, 244, []), (50, 61, []), (52, 244, []), (50, 7, [])]
def xV (z : Int) : Value := .int (Int32.ofInt z)
def xS (a : xA) (b : xB) : pmS := (xZ, fun p k => Int32.ofInt (a p (k : Int)), fun p k => b p (k : Int))
def xR (z : Int) : Prop := -2147483648 ≤ z ∧ z ≤ 2147483647
def xU {β : Type} (f : Nat → Int → β) (p : Nat) (k : Int) (v : β) : Nat → Int → β := fun q j => if q = p ∧ j = k then v else f q j
theorem xz0 : xZ[0]? = some (11, 13, [some 1, some 3, some 7, some 13, some 21, some 26, some 31, some 33, some 34, some 43, some 45, some 79, none]) := rfl
theorem xz1 : xZ[1]? = some (6, 5, [some 2, none, none, none, none]) := rfl
theorem xz2 : xZ[2]? = some (50, 400, []) := rfl
theorem xz3 : xZ[3]? = some (5, 6, [some 4, some 5, some 6, none, none, none]) := rfl
theorem xz4 : xZ[4]? = some (50, 62, []) := rfl
theorem xz5 : xZ[5]? = some (50, 7, []) := rfl
theorem xz6 : xZ[6]? = some (50, 49, []) := rfl
theorem xz7 : xZ[7]? = some (9, 5, [some 8, some 9, some 10, some 11, some 12]) := rfl
theorem xz8 : xZ[8]? = some (50, 480, []) := rfl
theorem xz9 : xZ[9]? = some (50, 12, []) := rfl
theorem xz10 : xZ[10]? = some (50, 12, []) := rfl
theorem xz11 : xZ[11]? = some (50, 12, []) := rfl
theorem xz12 : xZ[12]? = some (50, 4, []) := rfl
theorem xz13 : xZ[13]? = some (2, 8, [some 14, some 15, some 16, some 17, some 18, some 19, some 20, none]) := rfl
theorem xz14 : xZ[14]? = some (50, 24, []) := rfl
theorem xz15 : xZ[15]? = some (50, 24, []) := rfl
theorem xz16 : xZ[16]? = some (50, 24, []) := rfl
theorem xz17 : xZ[17]? = some (50, 24, []) := rfl
theorem xz18 : xZ[18]? = some (50, 24, []) := rfl
theorem xz19 : xZ[19]? = some (50, 24, []) := rfl
theorem xz20 : xZ[20]? = some (50, 6, []) := rfl
theorem xz21 : xZ[21]? = some (10, 13, [some 22, some 23, some 24, some 25, none, none, none, none, none, none, none, none, none]) := rfl
theorem xz22 : xZ[22]? = some (51, 4, []) := rfl
theorem xz23 : xZ[23]? = some (50, 24, []) := rfl
theorem xz24 : xZ[24]? = some (50, 6, []) := rfl
theorem xz25 : xZ[25]? = some (50, 3, []) := rfl
theorem xz26 : xZ[26]? = some (10, 13, [some 27, some 28, some 29, some 30, none, none, none, none, none, none, none, none, none]) := rfl
theorem xz27 : xZ[27]? = some (51, 4, []) := rfl
theorem xz28 : xZ[28]? = some (50, 24, []) := rfl
theorem xz29 : xZ[29]? = some (50, 6, []) := rfl
theorem xz30 : xZ[30]? = some (50, 3, []) := rfl
theorem xz31 : xZ[31]? = some (8, 3, [some 1, some 32, none]) := rfl
theorem xz32 : xZ[32]? = some (50, 40, []) := rfl
theorem xz33 : xZ[33]? = some (1, 5, [some 1, some 13, none, none, none]) := rfl
theorem xz34 : xZ[34]? = some (3, 15, [some 3, some 7, some 35, some 36, some 37, some 38, some 39, some 40, some 41, some 42, none, none, none, none, none]) := rfl
theorem xz35 : xZ[35]? = some (51, 512, []) := rfl
theorem xz36 : xZ[36]? = some (51, 512, []) := rfl
theorem xz37 : xZ[37]? = some (50, 40, []) := rfl
theorem xz38 : xZ[38]? = some (50, 40, []) := rfl
theorem xz39 : xZ[39]? = some (50, 4, []) := rfl
theorem xz40 : xZ[40]? = some (50, 4, []) := rfl
theorem xz41 : xZ[41]? = some (50, 5, []) := rfl
theorem xz42 : xZ[42]? = some (50, 5, []) := rfl
theorem xz43 : xZ[43]? = some (4, 4, [some 3, some 13, some 34, some 44]) := rfl
theorem xz44 : xZ[44]? = some (50, 4, []) := rfl
theorem xz45 : xZ[45]? = some (7, 5, [some 3, some 43, some 46, some 62, some 78]) := rfl
theorem xz46 : xZ[46]? = some (54, 3, [some 47, some 52, some 57]) := rfl
theorem xz47 : xZ[47]? = some (10, 13, [some 48, some 49, some 50, some 51, none, none, none, none, none, none, none, none, none]) := rfl
theorem xz48 : xZ[48]? = some (51, 4, []) := rfl
theorem xz49 : xZ[49]? = some (50, 24, []) := rfl
theorem xz50 : xZ[50]? = some (50, 6, []) := rfl
theorem xz51 : xZ[51]? = some (50, 3, []) := rfl
theorem xz52 : xZ[52]? = some (10, 13, [some 53, some 54, some 55, some 56, none, none, none, none, none, none, none, none, none]) := rfl
theorem xz53 : xZ[53]? = some (51, 4, []) := rfl
theorem xz54 : xZ[54]? = some (50, 24, []) := rfl
theorem xz55 : xZ[55]? = some (50, 6, []) := rfl
theorem xz56 : xZ[56]? = some (50, 3, []) := rfl
theorem xz57 : xZ[57]? = some (10, 13, [some 58, some 59, some 60, some 61, none, none, none, none, none, none, none, none, none]) := rfl
theorem xz58 : xZ[58]? = some (51, 4, []) := rfl
theorem xz59 : xZ[59]? = some (50, 24, []) := rfl
theorem xz60 : xZ[60]? = some (50, 6, []) := rfl
theorem xz61 : xZ[61]? = some (50, 3, []) := rfl
theorem xz62 : xZ[62]? = some (54, 3, [some 63, some 68, some 73]) := rfl
theorem xz63 : xZ[63]? = some (10, 13, [some 64, some 65, some 66, some 67, none, none, none, none, none, none, none, none, none]) := rfl
theorem xz64 : xZ[64]? = some (51, 4, []) := rfl
theorem xz65 : xZ[65]? = some (50, 24, []) := rfl
theorem xz66 : xZ[66]? = some (50, 6, []) := rfl
theorem xz67 : xZ[67]? = some (50, 3, []) := rfl
theorem xz68 : xZ[68]? = some (10, 13, [some 69, some 70, some 71, some 72, none, none, none, none, none, none, none, none, none]) := rfl
theorem xz69 : xZ[69]? = some (51, 4, []) := rfl
theorem xz70 : xZ[70]? = some (50, 24, []) := rfl
theorem xz71 : xZ[71]? = some (50, 6, []) := rfl
theorem xz72 : xZ[72]? = some (50, 3, []) := rfl
theorem xz73 : xZ[73]? = some (10, 13, [some 74, some 75, some 76, some 77, none, none, none, none, none, none, none, none, none]) := rfl
theorem xz74 : xZ[74]? = some (51, 4, []) := rfl
theorem xz75 : xZ[75]? = some (50, 24, []) := rfl
theorem xz76 : xZ[76]? = some (50, 6, []) := rfl
theorem xz77 : xZ[77]? = some (50, 3, []) := rfl
theorem xz78 : xZ[78]? = some (50, 3, []) := rfl
theorem xz79 : xZ[79]? = some (0, 7, [some 3, some 43, some 45, some 80, some 85, some 86, none]) := rfl
theorem xz80 : xZ[80]? = some (10, 13, [some 81, some 82, some 83, some 84, none, none, none, none, none, none, none, none, none]) := rfl
theorem xz81 : xZ[81]? = some (51, 4, []) := rfl
theorem xz82 : xZ[82]? = some (50, 24, []) := rfl
theorem xz83 : xZ[83]? = some (50, 6, []) := rfl
theorem xz84 : xZ[84]? = some (50, 3, []) := rfl
theorem xz85 : xZ[85]? = some (50, 244, []) := rfl
theorem xz86 : xZ[86]? = some (50, 61, []) := rfl
theorem xz87 : xZ[87]? = some (12, 54, [some 88, some 89, none, none, none, some 90, some 91, some 92, some 93, none, none, none, none, none, none, none, some 94, some 95, some 96, some 97, some 98, some 99, none, some 100, some 101, some 102, some 103, some 104, some 105, some 106, some 107, some 108, some 109, none, none, some 110, some 111, some 112, some 113, some 114, some 115, none, none, none, some 116, some 117, some 118, some 119, some 120, some 121, some 122, some 123, some 124, some 125]) := rfl
theorem xz88 : xZ[88]? = some (50, 120, []) := rfl
theorem xz89 : xZ[89]? = some (50, 1200, []) := rfl
theorem xz90 : xZ[90]? = some (52, 49, []) := rfl
theorem xz91 : xZ[91]? = some (52, 5, []) := rfl
theorem xz92 : xZ[92]? = some (50, 7, []) := rfl
theorem xz93 : xZ[93]? = some (53, 400, []) := rfl
theorem xz94 : xZ[94]? = some (50, 60, []) := rfl
theorem xz95 : xZ[95]? = some (50, 60, []) := rfl
theorem xz96 : xZ[96]? = some (50, 4, []) := rfl
theorem xz97 : xZ[97]? = some (50, 12, []) := rfl
theorem xz98 : xZ[98]? = some (50, 12, []) := rfl
theorem xz99 : xZ[99]? = some (50, 720, []) := rfl
theorem xz100 : xZ[100]? = some (50, 6, []) := rfl
theorem xz101 : xZ[101]? = some (50, 24, []) := rfl
theorem xz102 : xZ[102]? = some (50, 48, []) := rfl
theorem xz103 : xZ[103]? = some (50, 48, []) := rfl
theorem xz104 : xZ[104]? = some (50, 48, []) := rfl
theorem xz105 : xZ[105]? = some (50, 48, []) := rfl
theorem xz106 : xZ[106]? = some (50, 24, []) := rfl
theorem xz107 : xZ[107]? = some (52, 48, []) := rfl
theorem xz108 : xZ[108]? = some (50, 50, []) := rfl
theorem xz109 : xZ[109]? = some (52, 60, []) := rfl
theorem xz110 : xZ[110]? = some (50, 4, []) := rfl
theorem xz111 : xZ[111]? = some (50, 4, []) := rfl
theorem xz112 : xZ[112]? = some (50, 5, []) := rfl
theorem xz113 : xZ[113]? = some (50, 5, []) := rfl
theorem xz114 : xZ[114]? = some (51, 4096, []) := rfl
theorem xz115 : xZ[115]? = some (50, 4096, []) := rfl
theorem xz116 : xZ[116]? = some (50, 4, []) := rfl
theorem xz117 : xZ[117]? = some (50, 4, []) := rfl
theorem xz118 : xZ[118]? = some (50, 4, []) := rfl
theorem xz119 : xZ[119]? = some (52, 4, []) := rfl
theorem xz120 : xZ[120]? = some (50, 244, []) := rfl
theorem xz121 : xZ[121]? = some (50, 244, []) := rfl
theorem xz122 : xZ[122]? = some (50, 244, []) := rfl
theorem xz123 : xZ[123]? = some (50, 61, []) := rfl
theorem xz124 : xZ[124]? = some (52, 244, []) := rfl
theorem xz125 : xZ[125]? = some (50, 7, []) := rfl
end
