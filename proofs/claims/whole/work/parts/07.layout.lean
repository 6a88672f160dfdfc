def YC : List Sh := [.inr (11, [some 1, some 7, some 17, some 19, some 21, some 22, some 26, some 36, some 46, some 52, some 61, none]), .inr (0, [none, none, none, some 2, some 3, some 4, some 5]), .inl (0, 4096, []), .inl (0, 4096, []), .inl (0, 4096, []), .inr (2, [some 6, none, none]), .inl (0, 5, []), .inr (5, [some 1, some 8, some 11, some 12, some 13, some 14, some 15, some 16, none, none, none, none, none, none, none, none, none]), .inr (6, [some 9, some 10, none]), .inl (1, 1024, []), .inl (0, 1024, []), .inl (0, 50, []), .inl (0, 10, []), .inl (1, 4096, []), .inl (1, 4096, []), .inl (0, 4096, []), .inl (0, 4096, []), .inr (2, [some 18, none, none]), .inl (0, 5, []), .inr (3, [some 20, none, none]), .inl (0, 51, []), .inr (8, [none, none, none, none, none]), .inr (10, [some 1, some 23, some 24, some 25]), .inl (0, 4, []), .inl (0, 5, []), .inl (0, 4, []), .inr (1, [some 1, none, some 27, none, none, none, none, some 28, some 29, some 30, some 31, some 32, some 33, some 34, some 35]), .inl (0, 10, []), .inl (0, 1296, []), .inl (0, 1296, []), .inl (0, 1296, []), .inl (0, 12960, []), .inl (2, 1296, []), .inl (0, 2048, []), .inl (0, 51, []), .inl (0, 11264, []), .inr (1, [some 1, none, some 37, none, none, none, none, some 38, some 39, some 40, some 41, some 42, some 43, some 44, some 45]), .inl (0, 10, []), .inl (0, 10, []), .inl (0, 10, []), .inl (0, 10, []), .inl (0, 100, []), .inl (2, 10, []), .inl (0, 0, []), .inl (0, 51, []), .inl (0, 11264, []), .inr (9, [some 47, some 48, some 49, some 50, some 51, none]), .inl (0, 20, []), .inl (0, 20, []), .inl (0, 20, []), .inl (0, 20, []), .inl (0, 20, []), .inr (4, [some 53, some 54, some 55, some 56, some 57, some 58, some 59, some 60, none, none, none]), .inl (0, 40, []), .inl (0, 40, []), .inl (0, 40, []), .inl (0, 40, []), .inl (2, 40, []), .inl (1, 40, []), .inl (2, 40, []), .inl (0, 40, []), .inl (3, 6, [62, 64, 66, 68, 70, 72]), .inr (7, [some 63, none, none, none]), .inl (0, 60, []), .inr (7, [some 65, none, none, none]), .inl (0, 60, []), .inr (7, [some 67, none, none, none]), .inl (0, 60, []), .inr (7, [some 69, none, none, none]), .inl (0, 60, []), .inr (7, [some 71, none, none, none]), .inl (0, 60, []), .inr (7, [some 73, none, none, none]), .inl (0, 60, [])]
theorem yc0 : YC[0]? = some (.inr (11, [some 1, some 7, some 17, some 19, some 21, some 22, some 26, some 36, some 46, some 52, some 61, none])) := rfl
theorem yc1 : YC[1]? = some (.inr (0, [none, none, none, some 2, some 3, some 4, some 5])) := rfl
theorem yc2 : YC[2]? = some (.inl (0, 4096, [])) := rfl
theorem yc3 : YC[3]? = some (.inl (0, 4096, [])) := rfl
theorem yc4 : YC[4]? = some (.inl (0, 4096, [])) := rfl
theorem yc5 : YC[5]? = some (.inr (2, [some 6, none, none])) := rfl
theorem yc6 : YC[6]? = some (.inl (0, 5, [])) := rfl
theorem yc7 : YC[7]? = some (.inr (5, [some 1, some 8, some 11, some 12, some 13, some 14, some 15, some 16, none, none, none, none, none, none, none, none, none])) := rfl
theorem yc8 : YC[8]? = some (.inr (6, [some 9, some 10, none])) := rfl
theorem yc9 : YC[9]? = some (.inl (1, 1024, [])) := rfl
theorem yc10 : YC[10]? = some (.inl (0, 1024, [])) := rfl
theorem yc11 : YC[11]? = some (.inl (0, 50, [])) := rfl
theorem yc12 : YC[12]? = some (.inl (0, 10, [])) := rfl
theorem yc13 : YC[13]? = some (.inl (1, 4096, [])) := rfl
theorem yc14 : YC[14]? = some (.inl (1, 4096, [])) := rfl
theorem yc15 : YC[15]? = some (.inl (0, 4096, [])) := rfl
theorem yc16 : YC[16]? = some (.inl (0, 4096, [])) := rfl
theorem yc17 : YC[17]? = some (.inr (2, [some 18, none, none])) := rfl
theorem yc18 : YC[18]? = some (.inl (0, 5, [])) := rfl
theorem yc19 : YC[19]? = some (.inr (3, [some 20, none, none])) := rfl
theorem yc20 : YC[20]? = some (.inl (0, 51, [])) := rfl
theorem yc21 : YC[21]? = some (.inr (8, [none, none, none, none, none])) := rfl
theorem yc22 : YC[22]? = some (.inr (10, [some 1, some 23, some 24, some 25])) := rfl
theorem yc23 : YC[23]? = some (.inl (0, 4, [])) := rfl
theorem yc24 : YC[24]? = some (.inl (0, 5, [])) := rfl
theorem yc25 : YC[25]? = some (.inl (0, 4, [])) := rfl
theorem yc26 : YC[26]? = some (.inr (1, [some 1, none, some 27, none, none, none, none, some 28, some 29, some 30, some 31, some 32, some 33, some 34, some 35])) := rfl
theorem yc27 : YC[27]? = some (.inl (0, 10, [])) := rfl
theorem yc28 : YC[28]? = some (.inl (0, 1296, [])) := rfl
theorem yc29 : YC[29]? = some (.inl (0, 1296, [])) := rfl
theorem yc30 : YC[30]? = some (.inl (0, 1296, [])) := rfl
theorem yc31 : YC[31]? = some (.inl (0, 12960, [])) := rfl
theorem yc32 : YC[32]? = some (.inl (2, 1296, [])) := rfl
theorem yc33 : YC[33]? = some (.inl (0, 2048, [])) := rfl
theorem yc34 : YC[34]? = some (.inl (0, 51, [])) := rfl
theorem yc35 : YC[35]? = some (.inl (0, 11264, [])) := rfl
theorem yc36 : YC[36]? = some (.inr (1, [some 1, none, some 37, none, none, none, none, some 38, some 39, some 40, some 41, some 42, some 43, some 44, some 45])) := rfl
theorem yc37 : YC[37]? = some (.inl (0, 10, [])) := rfl
theorem yc38 : YC[38]? = some (.inl (0, 10, [])) := rfl
theorem yc39 : YC[39]? = some (.inl (0, 10, [])) := rfl
theorem yc40 : YC[40]? = some (.inl (0, 10, [])) := rfl
theorem yc41 : YC[41]? = some (.inl (0, 100, [])) := rfl
theorem yc42 : YC[42]? = some (.inl (2, 10, [])) := rfl
theorem yc43 : YC[43]? = some (.inl (0, 0, [])) := rfl
theorem yc44 : YC[44]? = some (.inl (0, 51, [])) := rfl
theorem yc45 : YC[45]? = some (.inl (0, 11264, [])) := rfl
theorem yc46 : YC[46]? = some (.inr (9, [some 47, some 48, some 49, some 50, some 51, none])) := rfl
theorem yc47 : YC[47]? = some (.inl (0, 20, [])) := rfl
theorem yc48 : YC[48]? = some (.inl (0, 20, [])) := rfl
theorem yc49 : YC[49]? = some (.inl (0, 20, [])) := rfl
theorem yc50 : YC[50]? = some (.inl (0, 20, [])) := rfl
theorem yc51 : YC[51]? = some (.inl (0, 20, [])) := rfl
theorem yc52 : YC[52]? = some (.inr (4, [some 53, some 54, some 55, some 56, some 57, some 58, some 59, some 60, none, none, none])) := rfl
theorem yc53 : YC[53]? = some (.inl (0, 40, [])) := rfl
theorem yc54 : YC[54]? = some (.inl (0, 40, [])) := rfl
theorem yc55 : YC[55]? = some (.inl (0, 40, [])) := rfl
theorem yc56 : YC[56]? = some (.inl (0, 40, [])) := rfl
theorem yc57 : YC[57]? = some (.inl (2, 40, [])) := rfl
theorem yc58 : YC[58]? = some (.inl (1, 40, [])) := rfl
theorem yc59 : YC[59]? = some (.inl (2, 40, [])) := rfl
theorem yc60 : YC[60]? = some (.inl (0, 40, [])) := rfl
theorem yc61 : YC[61]? = some (.inl (3, 6, [62, 64, 66, 68, 70, 72])) := rfl
theorem yc62 : YC[62]? = some (.inr (7, [some 63, none, none, none])) := rfl
theorem yc63 : YC[63]? = some (.inl (0, 60, [])) := rfl
theorem yc64 : YC[64]? = some (.inr (7, [some 65, none, none, none])) := rfl
theorem yc65 : YC[65]? = some (.inl (0, 60, [])) := rfl
theorem yc66 : YC[66]? = some (.inr (7, [some 67, none, none, none])) := rfl
theorem yc67 : YC[67]? = some (.inl (0, 60, [])) := rfl
theorem yc68 : YC[68]? = some (.inr (7, [some 69, none, none, none])) := rfl
theorem yc69 : YC[69]? = some (.inl (0, 60, [])) := rfl
theorem yc70 : YC[70]? = some (.inr (7, [some 71, none, none, none])) := rfl
theorem yc71 : YC[71]? = some (.inl (0, 60, [])) := rfl
theorem yc72 : YC[72]? = some (.inr (7, [some 73, none, none, none])) := rfl
theorem yc73 : YC[73]? = some (.inl (0, 60, [])) := rfl
def YM : List Sh := [.inr (12, [none, none, none, none, none, none, some 1, none, some 2, none, some 3, some 4, some 5, none, none, none, some 6, some 7, none, some 8, some 9, some 10, some 11, some 12, some 13, some 14, some 15, some 16, some 17, some 18, some 19, some 20, none, none, some 21, some 22, some 23, some 24, some 25, some 26, some 27, some 28, some 29, none, some 30, some 31, some 32, some 33, some 34, some 35, some 36, some 37, some 38]), .inl (1, 4096, []), .inl (0, 5, []), .inl (0, 55, []), .inl (0, 11, []), .inl (0, 10, []), .inl (0, 5, []), .inl (0, 4096, []), .inl (0, 4096, []), .inl (0, 60, []), .inl (0, 4, []), .inl (0, 5, []), .inl (0, 4, []), .inl (1, 4096, []), .inl (0, 1024, []), .inl (0, 1024, []), .inl (0, 11264, []), .inl (0, 11264, []), .inl (0, 40960, []), .inl (0, 10, []), .inl (0, 10, []), .inl (0, 40, []), .inl (0, 40, []), .inl (0, 40, []), .inl (0, 40, []), .inl (0, 40, []), .inl (0, 600, []), .inl (0, 600, []), .inl (0, 600, []), .inl (0, 600, []), .inl (0, 40, []), .inl (0, 40, []), .inl (0, 40, []), .inl (0, 60, []), .inl (0, 6, []), .inl (0, 6, []), .inl (0, 360, []), .inl (0, 6, []), .inl (0, 60, [])]
theorem ym0 : YM[0]? = some (.inr (12, [none, none, none, none, none, none, some 1, none, some 2, none, some 3, some 4, some 5, none, none, none, some 6, some 7, none, some 8, some 9, some 10, some 11, some 12, some 13, some 14, some 15, some 16, some 17, some 18, some 19, some 20, none, none, some 21, some 22, some 23, some 24, some 25, some 26, some 27, some 28, some 29, none, some 30, some 31, some 32, some 33, some 34, some 35, some 36, some 37, some 38])) := rfl
theorem ym1 : YM[1]? = some (.inl (1, 4096, [])) := rfl
theorem ym2 : YM[2]? = some (.inl (0, 5, [])) := rfl
theorem ym3 : YM[3]? = some (.inl (0, 55, [])) := rfl
theorem ym4 : YM[4]? = some (.inl (0, 11, [])) := rfl
theorem ym5 : YM[5]? = some (.inl (0, 10, [])) := rfl
theorem ym6 : YM[6]? = some (.inl (0, 5, [])) := rfl
theorem ym7 : YM[7]? = some (.inl (0, 4096, [])) := rfl
theorem ym8 : YM[8]? = some (.inl (0, 4096, [])) := rfl
theorem ym9 : YM[9]? = some (.inl (0, 60, [])) := rfl
theorem ym10 : YM[10]? = some (.inl (0, 4, [])) := rfl
theorem ym11 : YM[11]? = some (.inl (0, 5, [])) := rfl
theorem ym12 : YM[12]? = some (.inl (0, 4, [])) := rfl
theorem ym13 : YM[13]? = some (.inl (1, 4096, [])) := rfl
theorem ym14 : YM[14]? = some (.inl (0, 1024, [])) := rfl
theorem ym15 : YM[15]? = some (.inl (0, 1024, [])) := rfl
theorem ym16 : YM[16]? = some (.inl (0, 11264, [])) := rfl
theorem ym17 : YM[17]? = some (.inl (0, 11264, [])) := rfl
theorem ym18 : YM[18]? = some (.inl (0, 40960, [])) := rfl
theorem ym19 : YM[19]? = some (.inl (0, 10, [])) := rfl
theorem ym20 : YM[20]? = some (.inl (0, 10, [])) := rfl
theorem ym21 : YM[21]? = some (.inl (0, 40, [])) := rfl
theorem ym22 : YM[22]? = some (.inl (0, 40, [])) := rfl
theorem ym23 : YM[23]? = some (.inl (0, 40, [])) := rfl
theorem ym24 : YM[24]? = some (.inl (0, 40, [])) := rfl
theorem ym25 : YM[25]? = some (.inl (0, 40, [])) := rfl
theorem ym26 : YM[26]? = some (.inl (0, 600, [])) := rfl
theorem ym27 : YM[27]? = some (.inl (0, 600, [])) := rfl
theorem ym28 : YM[28]? = some (.inl (0, 600, [])) := rfl
theorem ym29 : YM[29]? = some (.inl (0, 600, [])) := rfl
theorem ym30 : YM[30]? = some (.inl (0, 40, [])) := rfl
theorem ym31 : YM[31]? = some (.inl (0, 40, [])) := rfl
theorem ym32 : YM[32]? = some (.inl (0, 40, [])) := rfl
theorem ym33 : YM[33]? = some (.inl (0, 60, [])) := rfl
theorem ym34 : YM[34]? = some (.inl (0, 6, [])) := rfl
theorem ym35 : YM[35]? = some (.inl (0, 6, [])) := rfl
theorem ym36 : YM[36]? = some (.inl (0, 360, [])) := rfl
theorem ym37 : YM[37]? = some (.inl (0, 6, [])) := rfl
theorem ym38 : YM[38]? = some (.inl (0, 60, [])) := rfl
theorem up_eq (σ : St) (k i : Nat) (x : Int32) (a b : Nat) : up σ k i x a b = if a = k ∧ b = i then x else σ a b := by
  unfold up va_up upd
  by_cases h : a = k
  · subst h; simp
  · simp [h]
