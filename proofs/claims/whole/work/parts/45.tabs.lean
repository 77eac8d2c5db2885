/-! PART 45: tables of the two worlds. -/
theorem obC0 : obR wC 0 10 = some (17, [1, 3, 7, 9, 14, 15, 17, 19, 21, 23, 25, 28, 42, 45, 51, 0, 0]) := by decide +kernel
theorem isC0 : isOb wC 0 10 = true := by decide +kernel
theorem obC1 : obR wC 1 8 = some (4, [2, 0, 0, 0]) := by decide +kernel
theorem isC1 : isOb wC 1 8 = true := by decide +kernel
theorem arC2 : arR wC 0 2 = some 240 := by decide +kernel
theorem apC2 : arP wC 0 2 = some 240 := by decide +kernel
theorem obC3 : obR wC 3 6 = some (6, [4, 5, 6, 0, 0, 0]) := by decide +kernel
theorem isC3 : isOb wC 3 6 = true := by decide +kernel
theorem arC4 : arR wC 0 4 = some 4 := by decide +kernel
theorem apC4 : arP wC 0 4 = some 4 := by decide +kernel
theorem arC5 : arR wC 0 5 = some 40 := by decide +kernel
theorem apC5 : arP wC 0 5 = some 40 := by decide +kernel
theorem arC6 : arR wC 0 6 = some 27 := by decide +kernel
theorem apC6 : arP wC 0 6 = some 27 := by decide +kernel
theorem obC7 : obR wC 7 3 = some (2, [8, 0]) := by decide +kernel
theorem isC7 : isOb wC 7 3 = true := by decide +kernel
theorem arC8 : arR wC 0 8 = some 240 := by decide +kernel
theorem apC8 : arP wC 0 8 = some 240 := by decide +kernel
theorem obC9 : obR wC 9 4 = some (7, [10, 11, 12, 13, 0, 0, 0]) := by decide +kernel
theorem isC9 : isOb wC 9 4 = true := by decide +kernel
theorem arC10 : arR wC 0 10 = some 960 := by decide +kernel
theorem apC10 : arP wC 0 10 = some 960 := by decide +kernel
theorem arC11 : arR wC 0 11 = some 4 := by decide +kernel
theorem apC11 : arP wC 0 11 = some 4 := by decide +kernel
theorem arC12 : arR wC 0 12 = some 6 := by decide +kernel
theorem apC12 : arP wC 0 12 = some 6 := by decide +kernel
theorem arC13 : arR wC 0 13 = some 64 := by decide +kernel
theorem apC13 : arP wC 0 13 = some 64 := by decide +kernel
theorem arC14 : arR wC 0 14 = some 4 := by decide +kernel
theorem apC14 : arP wC 0 14 = some 4 := by decide +kernel
theorem obC15 : obR wC 15 2 = some (5, [16, 0, 0, 0, 0]) := by decide +kernel
theorem isC15 : isOb wC 15 2 = true := by decide +kernel
theorem arC16 : arR wC 0 16 = some 56 := by decide +kernel
theorem apC16 : arP wC 0 16 = some 56 := by decide +kernel
theorem obC17 : obR wC 17 2 = some (5, [18, 0, 0, 0, 0]) := by decide +kernel
theorem isC17 : isOb wC 17 2 = true := by decide +kernel
theorem arC18 : arR wC 0 18 = some 56 := by decide +kernel
theorem apC18 : arP wC 0 18 = some 56 := by decide +kernel
theorem obC19 : obR wC 19 2 = some (5, [20, 0, 0, 0, 0]) := by decide +kernel
theorem isC19 : isOb wC 19 2 = true := by decide +kernel
theorem arC20 : arR wC 0 20 = some 56 := by decide +kernel
theorem apC20 : arP wC 0 20 = some 56 := by decide +kernel
theorem obC21 : obR wC 21 5 = some (1, [22]) := by decide +kernel
theorem isC21 : isOb wC 21 5 = true := by decide +kernel
theorem arC22 : arR wC 0 22 = some 300 := by decide +kernel
theorem apC22 : arP wC 0 22 = some 300 := by decide +kernel
theorem obC23 : obR wC 23 5 = some (1, [24]) := by decide +kernel
theorem isC23 : isOb wC 23 5 = true := by decide +kernel
theorem arC24 : arR wC 0 24 = some 300 := by decide +kernel
theorem apC24 : arP wC 0 24 = some 300 := by decide +kernel
theorem obC25 : obR wC 25 0 = some (4, [26, 27, 0, 0]) := by decide +kernel
theorem isC25 : isOb wC 25 0 = true := by decide +kernel
theorem arC26 : arR wC 0 26 = some 2240 := by decide +kernel
theorem apC26 : arP wC 0 26 = some 2240 := by decide +kernel
theorem arC27 : arR wC 0 27 = some 40 := by decide +kernel
theorem apC27 : arP wC 0 27 = some 40 := by decide +kernel
theorem obC28 : obR wC 28 9 = some (3, [29, 0, 0]) := by decide +kernel
theorem isC28 : isOb wC 28 9 = true := by decide +kernel
theorem roC29 : roR wC 29 = some (6, [30, 32, 34, 36, 38, 40]) := by decide +kernel
theorem obC30 : obR wC 30 2 = some (5, [31, 0, 0, 0, 0]) := by decide +kernel
theorem isC30 : isOb wC 30 2 = true := by decide +kernel
theorem arC31 : arR wC 0 31 = some 56 := by decide +kernel
theorem apC31 : arP wC 0 31 = some 56 := by decide +kernel
theorem obC32 : obR wC 32 2 = some (5, [33, 0, 0, 0, 0]) := by decide +kernel
theorem isC32 : isOb wC 32 2 = true := by decide +kernel
theorem arC33 : arR wC 0 33 = some 56 := by decide +kernel
theorem apC33 : arP wC 0 33 = some 56 := by decide +kernel
theorem obC34 : obR wC 34 2 = some (5, [35, 0, 0, 0, 0]) := by decide +kernel
theorem isC34 : isOb wC 34 2 = true := by decide +kernel
theorem arC35 : arR wC 0 35 = some 56 := by decide +kernel
theorem apC35 : arP wC 0 35 = some 56 := by decide +kernel
theorem obC36 : obR wC 36 2 = some (5, [37, 0, 0, 0, 0]) := by decide +kernel
theorem isC36 : isOb wC 36 2 = true := by decide +kernel
theorem arC37 : arR wC 0 37 = some 56 := by decide +kernel
theorem apC37 : arP wC 0 37 = some 56 := by decide +kernel
theorem obC38 : obR wC 38 2 = some (5, [39, 0, 0, 0, 0]) := by decide +kernel
theorem isC38 : isOb wC 38 2 = true := by decide +kernel
theorem arC39 : arR wC 0 39 = some 56 := by decide +kernel
theorem apC39 : arP wC 0 39 = some 56 := by decide +kernel
theorem obC40 : obR wC 40 2 = some (5, [41, 0, 0, 0, 0]) := by decide +kernel
theorem isC40 : isOb wC 40 2 = true := by decide +kernel
theorem arC41 : arR wC 0 41 = some 56 := by decide +kernel
theorem apC41 : arP wC 0 41 = some 56 := by decide +kernel
theorem obC42 : obR wC 42 7 = some (3, [43, 44, 0]) := by decide +kernel
theorem isC42 : isOb wC 42 7 = true := by decide +kernel
theorem arC43 : arR wC 0 43 = some 27 := by decide +kernel
theorem apC43 : arP wC 0 43 = some 27 := by decide +kernel
theorem arC44 : arR wC 0 44 = some 6 := by decide +kernel
theorem apC44 : arP wC 0 44 = some 6 := by decide +kernel
theorem obC45 : obR wC 45 1 = some (7, [46, 47, 48, 49, 50, 0, 0]) := by decide +kernel
theorem isC45 : isOb wC 45 1 = true := by decide +kernel
theorem arC46 : arR wC 0 46 = some 10 := by decide +kernel
theorem apC46 : arP wC 0 46 = some 10 := by decide +kernel
theorem arC47 : arR wC 1 47 = some 10 := by decide +kernel
theorem apC47 : arP wC 1 47 = some 10 := by decide +kernel
theorem arC48 : arR wC 0 48 = some 10 := by decide +kernel
theorem apC48 : arP wC 0 48 = some 10 := by decide +kernel
theorem arC49 : arR wC 0 49 = some 10 := by decide +kernel
theorem apC49 : arP wC 0 49 = some 10 := by decide +kernel
theorem arC50 : arR wC 1 50 = some 10 := by decide +kernel
theorem apC50 : arP wC 1 50 = some 10 := by decide +kernel
theorem arC51 : arR wC 0 51 = some 5 := by decide +kernel
theorem apC51 : arP wC 0 51 = some 5 := by decide +kernel
theorem arC52 : arR wC 0 52 = some 4 := by decide +kernel
theorem arC53 : arR wC 0 53 = some 4 := by decide +kernel
theorem arC54 : arR wC 0 54 = some 4 := by decide +kernel
theorem arC55 : arR wC 0 55 = some 5 := by decide +kernel
theorem arC56 : arR wC 0 56 = some 5 := by decide +kernel
theorem arC57 : arR wC 0 57 = some 5 := by decide +kernel
theorem arC58 : arR wC 0 58 = some 3 := by decide +kernel
theorem arC59 : arR wC 0 59 = some 3 := by decide +kernel
theorem arC60 : arR wC 0 60 = some 3 := by decide +kernel
theorem arC61 : arR wC 0 61 = some 5 := by decide +kernel
theorem obM0 : obR wM 0 11 = some (46, [0, 1, 0, 0, 0, 0, 2, 3, 4, 5, 6, 7, 8, 0, 0, 9, 10, 11, 12, 13, 0, 0, 14, 15, 0, 0, 16, 17, 0, 0, 18, 0, 0, 19, 0, 0, 20, 21, 0, 22, 23, 24, 25, 0, 26, 0]) := by decide +kernel
theorem isM0 : isOb wM 0 11 = true := by decide +kernel
theorem arM1 : arR wM 0 1 = some 240 := by decide +kernel
theorem apM1 : arP wM 0 1 = some 240 := by decide +kernel
theorem arM2 : arR wM 0 2 = some 2600 := by decide +kernel
theorem apM2 : arP wM 0 2 = some 2600 := by decide +kernel
theorem arM3 : arR wM 0 3 = some 2600 := by decide +kernel
theorem apM3 : arP wM 0 3 = some 2600 := by decide +kernel
theorem arM4 : arR wM 0 4 = some 5 := by decide +kernel
theorem apM4 : arP wM 0 4 = some 5 := by decide +kernel
theorem arM5 : arR wM 0 5 = some 5 := by decide +kernel
theorem apM5 : arP wM 0 5 = some 5 := by decide +kernel
theorem arM6 : arR wM 0 6 = some 700 := by decide +kernel
theorem apM6 : arP wM 0 6 = some 700 := by decide +kernel
theorem arM7 : arR wM 0 7 = some 700 := by decide +kernel
theorem apM7 : arP wM 0 7 = some 700 := by decide +kernel
theorem arM8 : arR wM 0 8 = some 700 := by decide +kernel
theorem apM8 : arP wM 0 8 = some 700 := by decide +kernel
theorem arM9 : arR wM 0 9 = some 6 := by decide +kernel
theorem apM9 : arP wM 0 9 = some 6 := by decide +kernel
theorem arM10 : arR wM 0 10 = some 80 := by decide +kernel
theorem apM10 : arP wM 0 10 = some 80 := by decide +kernel
theorem arM11 : arR wM 0 11 = some 4 := by decide +kernel
theorem apM11 : arP wM 0 11 = some 4 := by decide +kernel
theorem arM12 : arR wM 0 12 = some 40 := by decide +kernel
theorem apM12 : arP wM 0 12 = some 40 := by decide +kernel
theorem arM13 : arR wM 0 13 = some 27 := by decide +kernel
theorem apM13 : arP wM 0 13 = some 27 := by decide +kernel
theorem arM14 : arR wM 0 14 = some 4 := by decide +kernel
theorem apM14 : arP wM 0 14 = some 4 := by decide +kernel
theorem arM15 : arR wM 0 15 = some 27 := by decide +kernel
theorem apM15 : arP wM 0 15 = some 27 := by decide +kernel
theorem arM16 : arR wM 0 16 = some 231 := by decide +kernel
theorem apM16 : arP wM 0 16 = some 231 := by decide +kernel
theorem arM17 : arR wM 0 17 = some 5 := by decide +kernel
theorem apM17 : arP wM 0 17 = some 5 := by decide +kernel
theorem arM18 : arR wM 0 18 = some 9240 := by decide +kernel
theorem apM18 : arP wM 0 18 = some 9240 := by decide +kernel
theorem arM19 : arR wM 0 19 = some 350 := by decide +kernel
theorem apM19 : arP wM 0 19 = some 350 := by decide +kernel
theorem arM20 : arR wM 0 20 = some 10 := by decide +kernel
theorem apM20 : arP wM 0 20 = some 10 := by decide +kernel
theorem arM21 : arR wM 1 21 = some 10 := by decide +kernel
theorem apM21 : arP wM 1 21 = some 10 := by decide +kernel
theorem arM22 : arR wM 0 22 = some 6 := by decide +kernel
theorem apM22 : arP wM 0 22 = some 6 := by decide +kernel
theorem arM23 : arR wM 0 23 = some 10 := by decide +kernel
theorem apM23 : arP wM 0 23 = some 10 := by decide +kernel
theorem arM24 : arR wM 0 24 = some 10 := by decide +kernel
theorem apM24 : arP wM 0 24 = some 10 := by decide +kernel
theorem arM25 : arR wM 1 25 = some 10 := by decide +kernel
theorem apM25 : arP wM 1 25 = some 10 := by decide +kernel
theorem arM26 : arR wM 0 26 = some 231 := by decide +kernel
theorem apM26 : arP wM 0 26 = some 231 := by decide +kernel
theorem fv_0_0 (M : Mem) (rs : List Int) (i : Nat) : fv M rs 0 i 0 = rs.getD 0 (-1) := rfl
theorem fv_0_1 (M : Mem) (rs : List Int) (i : Nat) : fv M rs 0 i 1 = rs.getD 1 (-1) := rfl
theorem fv_0_2 (M : Mem) (rs : List Int) (i : Nat) : fv M rs 0 i 2 = M i 2 := rfl
theorem ft_0_2 (v : Int) : fitC (codeOf (tyC 0 2)) v = true := rfl
theorem fv_0_3 (M : Mem) (rs : List Int) (i : Nat) : fv M rs 0 i 3 = M i 3 := rfl
theorem ft_0_3 (v : Int) : fitC (codeOf (tyC 0 3)) v = true := rfl
theorem fv_1_0 (M : Mem) (rs : List Int) (i : Nat) : fv M rs 1 i 0 = rs.getD 0 (-1) := rfl
theorem fv_1_1 (M : Mem) (rs : List Int) (i : Nat) : fv M rs 1 i 1 = rs.getD 1 (-1) := rfl
theorem fv_1_2 (M : Mem) (rs : List Int) (i : Nat) : fv M rs 1 i 2 = rs.getD 2 (-1) := rfl
theorem fv_1_3 (M : Mem) (rs : List Int) (i : Nat) : fv M rs 1 i 3 = rs.getD 3 (-1) := rfl
theorem fv_1_4 (M : Mem) (rs : List Int) (i : Nat) : fv M rs 1 i 4 = rs.getD 4 (-1) := rfl
theorem fv_1_5 (M : Mem) (rs : List Int) (i : Nat) : fv M rs 1 i 5 = M i 5 := rfl
theorem ft_1_5 (v : Int) : fitC (codeOf (tyC 1 5)) v = true := rfl
theorem fv_1_6 (M : Mem) (rs : List Int) (i : Nat) : fv M rs 1 i 6 = M i 6 := rfl
theorem ft_1_6 (v : Int) : fitC (codeOf (tyC 1 6)) v = true := rfl
theorem fv_2_0 (M : Mem) (rs : List Int) (i : Nat) : fv M rs 2 i 0 = rs.getD 0 (-1) := rfl
theorem fv_2_1 (M : Mem) (rs : List Int) (i : Nat) : fv M rs 2 i 1 = M i 1 := rfl
theorem ft_2_1 (v : Int) : fitC (codeOf (tyC 2 1)) v = true := rfl
theorem fv_2_2 (M : Mem) (rs : List Int) (i : Nat) : fv M rs 2 i 2 = M i 2 := rfl
theorem ft_2_2 (v : Int) : fitC (codeOf (tyC 2 2)) v = true := rfl
theorem fv_2_3 (M : Mem) (rs : List Int) (i : Nat) : fv M rs 2 i 3 = M i 3 := rfl
theorem ft_2_3 (v : Int) : fitC (codeOf (tyC 2 3)) v = true := rfl
theorem fv_2_4 (M : Mem) (rs : List Int) (i : Nat) : fv M rs 2 i 4 = M i 4 := rfl
theorem ft_2_4 (v : Int) : fitC (codeOf (tyC 2 4)) v = true := rfl
theorem fv_3_0 (M : Mem) (rs : List Int) (i : Nat) : fv M rs 3 i 0 = rs.getD 0 (-1) := rfl
theorem fv_3_1 (M : Mem) (rs : List Int) (i : Nat) : fv M rs 3 i 1 = M i 1 := rfl
theorem ft_3_1 (v : Int) : fitC (codeOf (tyC 3 1)) v = true := rfl
theorem fv_4_0 (M : Mem) (rs : List Int) (i : Nat) : fv M rs 4 i 0 = rs.getD 0 (-1) := rfl
theorem fv_4_1 (M : Mem) (rs : List Int) (i : Nat) : fv M rs 4 i 1 = rs.getD 1 (-1) := rfl
theorem fv_4_2 (M : Mem) (rs : List Int) (i : Nat) : fv M rs 4 i 2 = rs.getD 2 (-1) := rfl
theorem fv_4_3 (M : Mem) (rs : List Int) (i : Nat) : fv M rs 4 i 3 = rs.getD 3 (-1) := rfl
theorem fv_4_4 (M : Mem) (rs : List Int) (i : Nat) : fv M rs 4 i 4 = M i 4 := rfl
theorem ft_4_4 (v : Int) : fitC (codeOf (tyC 4 4)) v = true := rfl
theorem fv_4_5 (M : Mem) (rs : List Int) (i : Nat) : fv M rs 4 i 5 = M i 5 := rfl
theorem ft_4_5 (v : Int) : fitC (codeOf (tyC 4 5)) v = true := rfl
theorem fv_4_6 (M : Mem) (rs : List Int) (i : Nat) : fv M rs 4 i 6 = M i 6 := rfl
theorem ft_4_6 (v : Int) : fitC (codeOf (tyC 4 6)) v = true := rfl
theorem fv_5_0 (M : Mem) (rs : List Int) (i : Nat) : fv M rs 5 i 0 = rs.getD 0 (-1) := rfl
theorem fv_6_0 (M : Mem) (rs : List Int) (i : Nat) : fv M rs 6 i 0 = rs.getD 0 (-1) := rfl
theorem fv_6_1 (M : Mem) (rs : List Int) (i : Nat) : fv M rs 6 i 1 = rs.getD 1 (-1) := rfl
theorem fv_6_2 (M : Mem) (rs : List Int) (i : Nat) : fv M rs 6 i 2 = rs.getD 2 (-1) := rfl
theorem fv_6_3 (M : Mem) (rs : List Int) (i : Nat) : fv M rs 6 i 3 = M i 3 := rfl
theorem ft_6_3 (v : Int) : fitC (codeOf (tyC 6 3)) v = decide (v = 0 ∨ v = 1) := rfl
theorem fv_6_4 (M : Mem) (rs : List Int) (i : Nat) : fv M rs 6 i 4 = M i 4 := rfl
theorem ft_6_4 (v : Int) : fitC (codeOf (tyC 6 4)) v = true := rfl
theorem fv_6_5 (M : Mem) (rs : List Int) (i : Nat) : fv M rs 6 i 5 = M i 5 := rfl
theorem ft_6_5 (v : Int) : fitC (codeOf (tyC 6 5)) v = true := rfl
theorem fv_7_0 (M : Mem) (rs : List Int) (i : Nat) : fv M rs 7 i 0 = rs.getD 0 (-1) := rfl
theorem fv_7_1 (M : Mem) (rs : List Int) (i : Nat) : fv M rs 7 i 1 = rs.getD 1 (-1) := rfl
theorem fv_7_2 (M : Mem) (rs : List Int) (i : Nat) : fv M rs 7 i 2 = M i 2 := rfl
theorem ft_7_2 (v : Int) : fitC (codeOf (tyC 7 2)) v = true := rfl
theorem fv_8_0 (M : Mem) (rs : List Int) (i : Nat) : fv M rs 8 i 0 = rs.getD 0 (-1) := rfl
theorem fv_8_1 (M : Mem) (rs : List Int) (i : Nat) : fv M rs 8 i 1 = M i 1 := rfl
theorem ft_8_1 (v : Int) : fitC (codeOf (tyC 8 1)) v = true := rfl
theorem fv_8_2 (M : Mem) (rs : List Int) (i : Nat) : fv M rs 8 i 2 = M i 2 := rfl
theorem ft_8_2 (v : Int) : fitC (codeOf (tyC 8 2)) v = true := rfl
theorem fv_8_3 (M : Mem) (rs : List Int) (i : Nat) : fv M rs 8 i 3 = M i 3 := rfl
theorem ft_8_3 (v : Int) : fitC (codeOf (tyC 8 3)) v = true := rfl
theorem fv_9_0 (M : Mem) (rs : List Int) (i : Nat) : fv M rs 9 i 0 = rs.getD 0 (-1) := rfl
theorem fv_9_1 (M : Mem) (rs : List Int) (i : Nat) : fv M rs 9 i 1 = M i 1 := rfl
theorem ft_9_1 (v : Int) : fitC (codeOf (tyC 9 1)) v = true := rfl
theorem fv_9_2 (M : Mem) (rs : List Int) (i : Nat) : fv M rs 9 i 2 = M i 2 := rfl
theorem ft_9_2 (v : Int) : fitC (codeOf (tyC 9 2)) v = true := rfl
theorem fv_10_0 (M : Mem) (rs : List Int) (i : Nat) : fv M rs 10 i 0 = rs.getD 0 (-1) := rfl
theorem fv_10_1 (M : Mem) (rs : List Int) (i : Nat) : fv M rs 10 i 1 = rs.getD 1 (-1) := rfl
theorem fv_10_2 (M : Mem) (rs : List Int) (i : Nat) : fv M rs 10 i 2 = rs.getD 2 (-1) := rfl
theorem fv_10_3 (M : Mem) (rs : List Int) (i : Nat) : fv M rs 10 i 3 = rs.getD 3 (-1) := rfl
theorem fv_10_4 (M : Mem) (rs : List Int) (i : Nat) : fv M rs 10 i 4 = rs.getD 4 (-1) := rfl
theorem fv_10_5 (M : Mem) (rs : List Int) (i : Nat) : fv M rs 10 i 5 = rs.getD 5 (-1) := rfl
theorem fv_10_6 (M : Mem) (rs : List Int) (i : Nat) : fv M rs 10 i 6 = rs.getD 6 (-1) := rfl
theorem fv_10_7 (M : Mem) (rs : List Int) (i : Nat) : fv M rs 10 i 7 = rs.getD 7 (-1) := rfl
theorem fv_10_8 (M : Mem) (rs : List Int) (i : Nat) : fv M rs 10 i 8 = rs.getD 8 (-1) := rfl
theorem fv_10_9 (M : Mem) (rs : List Int) (i : Nat) : fv M rs 10 i 9 = rs.getD 9 (-1) := rfl
theorem fv_10_10 (M : Mem) (rs : List Int) (i : Nat) : fv M rs 10 i 10 = rs.getD 10 (-1) := rfl
theorem fv_10_11 (M : Mem) (rs : List Int) (i : Nat) : fv M rs 10 i 11 = rs.getD 11 (-1) := rfl
theorem fv_10_12 (M : Mem) (rs : List Int) (i : Nat) : fv M rs 10 i 12 = rs.getD 12 (-1) := rfl
theorem fv_10_13 (M : Mem) (rs : List Int) (i : Nat) : fv M rs 10 i 13 = rs.getD 13 (-1) := rfl
theorem fv_10_14 (M : Mem) (rs : List Int) (i : Nat) : fv M rs 10 i 14 = rs.getD 14 (-1) := rfl
theorem fv_10_15 (M : Mem) (rs : List Int) (i : Nat) : fv M rs 10 i 15 = M i 15 := rfl
theorem ft_10_15 (v : Int) : fitC (codeOf (tyC 10 15)) v = true := rfl
theorem fv_10_16 (M : Mem) (rs : List Int) (i : Nat) : fv M rs 10 i 16 = M i 16 := rfl
theorem ft_10_16 (v : Int) : fitC (codeOf (tyC 10 16)) v = decide (v = 0 ∨ v = 1) := rfl
theorem fv_11_0 (M : Mem) (rs : List Int) (i : Nat) : fv M rs 11 i 0 = M i 0 := rfl
theorem ft_11_0 (v : Int) : fitC (codeOf (tyC 11 0)) v = true := rfl
theorem fv_11_1 (M : Mem) (rs : List Int) (i : Nat) : fv M rs 11 i 1 = rs.getD 1 (-1) := rfl
theorem fv_11_2 (M : Mem) (rs : List Int) (i : Nat) : fv M rs 11 i 2 = M i 2 := rfl
theorem ft_11_2 (v : Int) : fitC (codeOf (tyC 11 2)) v = true := rfl
theorem fv_11_3 (M : Mem) (rs : List Int) (i : Nat) : fv M rs 11 i 3 = M i 3 := rfl
theorem ft_11_3 (v : Int) : fitC (codeOf (tyC 11 3)) v = true := rfl
theorem fv_11_4 (M : Mem) (rs : List Int) (i : Nat) : fv M rs 11 i 4 = M i 4 := rfl
theorem ft_11_4 (v : Int) : fitC (codeOf (tyC 11 4)) v = true := rfl
theorem fv_11_5 (M : Mem) (rs : List Int) (i : Nat) : fv M rs 11 i 5 = M i 5 := rfl
theorem ft_11_5 (v : Int) : fitC (codeOf (tyC 11 5)) v = true := rfl
theorem fv_11_6 (M : Mem) (rs : List Int) (i : Nat) : fv M rs 11 i 6 = rs.getD 6 (-1) := rfl
theorem fv_11_7 (M : Mem) (rs : List Int) (i : Nat) : fv M rs 11 i 7 = rs.getD 7 (-1) := rfl
theorem fv_11_8 (M : Mem) (rs : List Int) (i : Nat) : fv M rs 11 i 8 = rs.getD 8 (-1) := rfl
theorem fv_11_9 (M : Mem) (rs : List Int) (i : Nat) : fv M rs 11 i 9 = rs.getD 9 (-1) := rfl
theorem fv_11_10 (M : Mem) (rs : List Int) (i : Nat) : fv M rs 11 i 10 = rs.getD 10 (-1) := rfl
theorem fv_11_11 (M : Mem) (rs : List Int) (i : Nat) : fv M rs 11 i 11 = rs.getD 11 (-1) := rfl
theorem fv_11_12 (M : Mem) (rs : List Int) (i : Nat) : fv M rs 11 i 12 = rs.getD 12 (-1) := rfl
theorem fv_11_13 (M : Mem) (rs : List Int) (i : Nat) : fv M rs 11 i 13 = M i 13 := rfl
theorem ft_11_13 (v : Int) : fitC (codeOf (tyC 11 13)) v = true := rfl
theorem fv_11_14 (M : Mem) (rs : List Int) (i : Nat) : fv M rs 11 i 14 = M i 14 := rfl
theorem ft_11_14 (v : Int) : fitC (codeOf (tyC 11 14)) v = true := rfl
theorem fv_11_15 (M : Mem) (rs : List Int) (i : Nat) : fv M rs 11 i 15 = rs.getD 15 (-1) := rfl
theorem fv_11_16 (M : Mem) (rs : List Int) (i : Nat) : fv M rs 11 i 16 = rs.getD 16 (-1) := rfl
theorem fv_11_17 (M : Mem) (rs : List Int) (i : Nat) : fv M rs 11 i 17 = rs.getD 17 (-1) := rfl
theorem fv_11_18 (M : Mem) (rs : List Int) (i : Nat) : fv M rs 11 i 18 = rs.getD 18 (-1) := rfl
theorem fv_11_19 (M : Mem) (rs : List Int) (i : Nat) : fv M rs 11 i 19 = rs.getD 19 (-1) := rfl
theorem fv_11_20 (M : Mem) (rs : List Int) (i : Nat) : fv M rs 11 i 20 = M i 20 := rfl
theorem ft_11_20 (v : Int) : fitC (codeOf (tyC 11 20)) v = true := rfl
theorem fv_11_21 (M : Mem) (rs : List Int) (i : Nat) : fv M rs 11 i 21 = M i 21 := rfl
theorem ft_11_21 (v : Int) : fitC (codeOf (tyC 11 21)) v = true := rfl
theorem fv_11_22 (M : Mem) (rs : List Int) (i : Nat) : fv M rs 11 i 22 = rs.getD 22 (-1) := rfl
theorem fv_11_23 (M : Mem) (rs : List Int) (i : Nat) : fv M rs 11 i 23 = rs.getD 23 (-1) := rfl
theorem fv_11_24 (M : Mem) (rs : List Int) (i : Nat) : fv M rs 11 i 24 = M i 24 := rfl
theorem ft_11_24 (v : Int) : fitC (codeOf (tyC 11 24)) v = true := rfl
theorem fv_11_25 (M : Mem) (rs : List Int) (i : Nat) : fv M rs 11 i 25 = M i 25 := rfl
theorem ft_11_25 (v : Int) : fitC (codeOf (tyC 11 25)) v = true := rfl
theorem fv_11_26 (M : Mem) (rs : List Int) (i : Nat) : fv M rs 11 i 26 = rs.getD 26 (-1) := rfl
theorem fv_11_27 (M : Mem) (rs : List Int) (i : Nat) : fv M rs 11 i 27 = rs.getD 27 (-1) := rfl
theorem fv_11_28 (M : Mem) (rs : List Int) (i : Nat) : fv M rs 11 i 28 = M i 28 := rfl
theorem ft_11_28 (v : Int) : fitC (codeOf (tyC 11 28)) v = true := rfl
theorem fv_11_29 (M : Mem) (rs : List Int) (i : Nat) : fv M rs 11 i 29 = M i 29 := rfl
theorem ft_11_29 (v : Int) : fitC (codeOf (tyC 11 29)) v = true := rfl
theorem fv_11_30 (M : Mem) (rs : List Int) (i : Nat) : fv M rs 11 i 30 = rs.getD 30 (-1) := rfl
theorem fv_11_31 (M : Mem) (rs : List Int) (i : Nat) : fv M rs 11 i 31 = M i 31 := rfl
theorem ft_11_31 (v : Int) : fitC (codeOf (tyC 11 31)) v = true := rfl
theorem fv_11_32 (M : Mem) (rs : List Int) (i : Nat) : fv M rs 11 i 32 = M i 32 := rfl
theorem ft_11_32 (v : Int) : fitC (codeOf (tyC 11 32)) v = true := rfl
theorem fv_11_33 (M : Mem) (rs : List Int) (i : Nat) : fv M rs 11 i 33 = rs.getD 33 (-1) := rfl
theorem fv_11_34 (M : Mem) (rs : List Int) (i : Nat) : fv M rs 11 i 34 = M i 34 := rfl
theorem ft_11_34 (v : Int) : fitC (codeOf (tyC 11 34)) v = true := rfl
theorem fv_11_35 (M : Mem) (rs : List Int) (i : Nat) : fv M rs 11 i 35 = M i 35 := rfl
theorem ft_11_35 (v : Int) : fitC (codeOf (tyC 11 35)) v = true := rfl
theorem fv_11_36 (M : Mem) (rs : List Int) (i : Nat) : fv M rs 11 i 36 = rs.getD 36 (-1) := rfl
theorem fv_11_37 (M : Mem) (rs : List Int) (i : Nat) : fv M rs 11 i 37 = rs.getD 37 (-1) := rfl
theorem fv_11_38 (M : Mem) (rs : List Int) (i : Nat) : fv M rs 11 i 38 = M i 38 := rfl
theorem ft_11_38 (v : Int) : fitC (codeOf (tyC 11 38)) v = true := rfl
theorem fv_11_39 (M : Mem) (rs : List Int) (i : Nat) : fv M rs 11 i 39 = rs.getD 39 (-1) := rfl
theorem fv_11_40 (M : Mem) (rs : List Int) (i : Nat) : fv M rs 11 i 40 = rs.getD 40 (-1) := rfl
theorem fv_11_41 (M : Mem) (rs : List Int) (i : Nat) : fv M rs 11 i 41 = rs.getD 41 (-1) := rfl
theorem fv_11_42 (M : Mem) (rs : List Int) (i : Nat) : fv M rs 11 i 42 = rs.getD 42 (-1) := rfl
theorem fv_11_43 (M : Mem) (rs : List Int) (i : Nat) : fv M rs 11 i 43 = M i 43 := rfl
theorem ft_11_43 (v : Int) : fitC (codeOf (tyC 11 43)) v = true := rfl
theorem fv_11_44 (M : Mem) (rs : List Int) (i : Nat) : fv M rs 11 i 44 = rs.getD 44 (-1) := rfl
theorem fv_11_45 (M : Mem) (rs : List Int) (i : Nat) : fv M rs 11 i 45 = M i 45 := rfl
theorem ft_11_45 (v : Int) : fitC (codeOf (tyC 11 45)) v = decide (v = 0 ∨ v = 1) := rfl
theorem rc_X10_filled (vs : List Int) : recvOk wC ci_X10_filled vs = true := Eq.trans rfl rfl
theorem rc_X10_put (vs : List Int) : recvOk wC ci_X10_put vs = true := Eq.trans rfl rfl
theorem rc_X8_addWord (vs : List Int) : recvOk wC ci_X8_addWord vs = isOb wC (vs.headD (-1)) 8 := Eq.trans rfl rfl
theorem rc_X10_feed (vs : List Int) : recvOk wC ci_X10_feed vs = isOb wC (vs.headD (-1)) 10 := Eq.trans rfl rfl
theorem rc_X10_end (vs : List Int) : recvOk wC ci_X10_end vs = isOb wC (vs.headD (-1)) 10 := Eq.trans rfl rfl
theorem rc_X8_begin (vs : List Int) : recvOk wC ci_X8_begin vs = isOb wC (vs.headD (-1)) 8 := Eq.trans rfl rfl
theorem rc_X10_move (vs : List Int) : recvOk wC ci_X10_move vs = true := Eq.trans rfl rfl
theorem rc_X8_sign (vs : List Int) : recvOk wC ci_X8_sign vs = isOb wC (vs.headD (-1)) 8 := Eq.trans rfl rfl
theorem rc_X8_step (vs : List Int) : recvOk wC ci_X8_step vs = isOb wC (vs.headD (-1)) 8 := Eq.trans rfl rfl
theorem rc_X10_placeIn (vs : List Int) : recvOk wC ci_X10_placeIn vs = true := Eq.trans rfl rfl
theorem rc_X10_isDigit (vs : List Int) : recvOk wC ci_X10_isDigit vs = true := Eq.trans rfl rfl
theorem rc_X8_failAt (vs : List Int) : recvOk wC ci_X8_failAt vs = isOb wC (vs.headD (-1)) 8 := Eq.trans rfl rfl
theorem rc_X8_fail (vs : List Int) : recvOk wC ci_X8_fail vs = isOb wC (vs.headD (-1)) 8 := Eq.trans rfl rfl
theorem rc_X10_at (vs : List Int) : recvOk wC ci_X10_at vs = true := Eq.trans rfl rfl
theorem rc_X8_number (vs : List Int) : recvOk wC ci_X8_number vs = isOb wC (vs.headD (-1)) 8 := Eq.trans rfl rfl
theorem rc_X6_items (vs : List Int) : recvOk wC ci_X6_items vs = true := Eq.trans rfl rfl
theorem rc_X6_clause (vs : List Int) : recvOk wC ci_X6_clause vs = isOb wC (vs.headD (-1)) 6 := Eq.trans rfl rfl
theorem rc_X8_wantOver (vs : List Int) : recvOk wC ci_X8_wantOver vs = isOb wC (vs.headD (-1)) 8 := Eq.trans rfl rfl
theorem rc_X6_item (vs : List Int) : recvOk wC ci_X6_item vs = isOb wC (vs.headD (-1)) 6 := Eq.trans rfl rfl
theorem rc_X6_isWhole (vs : List Int) : recvOk wC ci_X6_isWhole vs = isOb wC (vs.headD (-1)) 6 := Eq.trans rfl rfl
theorem rc_X6_read (vs : List Int) : recvOk wC ci_X6_read vs = isOb wC (vs.headD (-1)) 6 := Eq.trans rfl rfl
theorem rc_X8_want (vs : List Int) : recvOk wC ci_X8_want vs = isOb wC (vs.headD (-1)) 8 := Eq.trans rfl rfl
theorem rc_X3_write (vs : List Int) : recvOk wC ci_X3_write vs = isOb wC (vs.headD (-1)) 3 := Eq.trans rfl rfl
theorem rc_X3_mayNest (vs : List Int) : recvOk wC ci_X3_mayNest vs = true := Eq.trans rfl rfl
theorem rc_X3_atom (D : Nat → Den) (vs : List Int) : recvOk wC (ci_X3_atom D) vs = isOb wC (vs.headD (-1)) 3 := Eq.trans rfl rfl
theorem rc_X3_sum (D : Nat → Den) (vs : List Int) : recvOk wC (ci_X3_sum D) vs = isOb wC (vs.headD (-1)) 3 := Eq.trans rfl rfl
theorem rc_X3_term (D : Nat → Den) (vs : List Int) : recvOk wC (ci_X3_term D) vs = isOb wC (vs.headD (-1)) 3 := Eq.trans rfl rfl
theorem rc_X3_isRelation (vs : List Int) : recvOk wC ci_X3_isRelation vs = true := Eq.trans rfl rfl
theorem rc_X3_condition (D : Nat → Den) (vs : List Int) : recvOk wC (ci_X3_condition D) vs = isOb wC (vs.headD (-1)) 3 := Eq.trans rfl rfl
theorem rc_X3_nested (D : Nat → Den) (vs : List Int) : recvOk wC (ci_X3_nested D) vs = isOb wC (vs.headD (-1)) 3 := Eq.trans rfl rfl
theorem rc_X3_truth (D : Nat → Den) (vs : List Int) : recvOk wC (ci_X3_truth D) vs = isOb wC (vs.headD (-1)) 3 := Eq.trans rfl rfl
theorem rc_X3_unit (D : Nat → Den) (vs : List Int) : recvOk wC (ci_X3_unit D) vs = isOb wC (vs.headD (-1)) 3 := Eq.trans rfl rfl
theorem rc_X3_clause (vs : List Int) : recvOk wC ci_X3_clause vs = isOb wC (vs.headD (-1)) 3 := Eq.trans rfl rfl
theorem rc_X3_read (vs : List Int) : recvOk wC ci_X3_read vs = isOb wC (vs.headD (-1)) 3 := Eq.trans rfl rfl
theorem rc_X10_fault (vs : List Int) : recvOk wC ci_X10_fault vs = isOb wC (vs.headD (-1)) 10 := Eq.trans rfl rfl
theorem rc_X2_set (vs : List Int) : recvOk wC ci_X2_set vs = isOb wC (vs.headD (-1)) 2 := Eq.trans rfl rfl
theorem rc_X2_settle (vs : List Int) : recvOk wC ci_X2_settle vs = isOb wC (vs.headD (-1)) 2 := Eq.trans rfl rfl
theorem rc_X7_shorten (vs : List Int) : recvOk wC ci_X7_shorten vs = isOb wC (vs.headD (-1)) 7 := Eq.trans rfl rfl
theorem rc_X7_build (vs : List Int) : recvOk wC ci_X7_build vs = isOb wC (vs.headD (-1)) 7 := Eq.trans rfl rfl
theorem rc_X1_forget (vs : List Int) : recvOk wC ci_X1_forget vs = isOb wC (vs.headD (-1)) 1 := Eq.trans rfl rfl
theorem rc_X0_forget (vs : List Int) : recvOk wC ci_X0_forget vs = isOb wC (vs.headD (-1)) 0 := Eq.trans rfl rfl
theorem rc_X10_found (vs : List Int) : recvOk wC ci_X10_found vs = isOb wC (vs.headD (-1)) 10 := Eq.trans rfl rfl
theorem rc_X4_add (vs : List Int) : recvOk wC ci_X4_add vs = isOb wC (vs.headD (-1)) 4 := Eq.trans rfl rfl
theorem rc_X10_text (vs : List Int) : recvOk wC ci_X10_text vs = isOb wC (vs.headD (-1)) 10 := Eq.trans rfl rfl
theorem rc_X10_isTold (vs : List Int) : recvOk wC ci_X10_isTold vs = isOb wC (vs.headD (-1)) 10 := Eq.trans rfl rfl
theorem rc_X10_master (vs : List Int) : recvOk wC ci_X10_master vs = isOb wC (vs.headD (-1)) 10 := Eq.trans rfl rfl
theorem rc_X10_way (vs : List Int) : recvOk wC ci_X10_way vs = isOb wC (vs.headD (-1)) 10 := Eq.trans rfl rfl
theorem rc_X10_law (vs : List Int) : recvOk wC ci_X10_law vs = isOb wC (vs.headD (-1)) 10 := Eq.trans rfl rfl
theorem rc_X2_has (vs : List Int) : recvOk wC ci_X2_has vs = isOb wC (vs.headD (-1)) 2 := Eq.trans rfl rfl
theorem rc_X2_get (vs : List Int) : recvOk wC ci_X2_get vs = isOb wC (vs.headD (-1)) 2 := Eq.trans rfl rfl
theorem rc_X2_lives (vs : List Int) : recvOk wC ci_X2_lives vs = isOb wC (vs.headD (-1)) 2 := Eq.trans rfl rfl
theorem rc_X10_refuse (vs : List Int) : recvOk wC ci_X10_refuse vs = isOb wC (vs.headD (-1)) 10 := Eq.trans rfl rfl
theorem rc_X0_keep (vs : List Int) : recvOk wC ci_X0_keep vs = isOb wC (vs.headD (-1)) 0 := Eq.trans rfl rfl
theorem rc_X2_fear (vs : List Int) : recvOk wC ci_X2_fear vs = isOb wC (vs.headD (-1)) 2 := Eq.trans rfl rfl
theorem rc_X10_show (vs : List Int) : recvOk wC ci_X10_show vs = isOb wC (vs.headD (-1)) 10 := Eq.trans rfl rfl
theorem rc_X10_warn (vs : List Int) : recvOk wC ci_X10_warn vs = isOb wC (vs.headD (-1)) 10 := Eq.trans rfl rfl
theorem rc_X2_living (vs : List Int) : recvOk wC ci_X2_living vs = isOb wC (vs.headD (-1)) 2 := Eq.trans rfl rfl
theorem rc_J6_bitCount_0f7a4C (vs : List Int) : recvOk wC ci_J6_bitCount_0f7a4C vs = true := Eq.trans rfl rfl
theorem rc_X2_manyLive (vs : List Int) : recvOk wC ci_X2_manyLive vs = isOb wC (vs.headD (-1)) 2 := Eq.trans rfl rfl
theorem rc_X10_leave (vs : List Int) : recvOk wC ci_X10_leave vs = isOb wC (vs.headD (-1)) 10 := Eq.trans rfl rfl
theorem rc_X2_welcome (vs : List Int) : recvOk wC ci_X2_welcome vs = isOb wC (vs.headD (-1)) 2 := Eq.trans rfl rfl
theorem rc_X10_come (vs : List Int) : recvOk wC ci_X10_come vs = isOb wC (vs.headD (-1)) 10 := Eq.trans rfl rfl
theorem rc_X10_within (vs : List Int) : recvOk wC ci_X10_within vs = true := Eq.trans rfl rfl
theorem rc_X4_pop (vs : List Int) : recvOk wC ci_X4_pop vs = isOb wC (vs.headD (-1)) 4 := Eq.trans rfl rfl
theorem rc_X4_push (vs : List Int) : recvOk wC ci_X4_push vs = isOb wC (vs.headD (-1)) 4 := Eq.trans rfl rfl
theorem rc_X4_result (vs : List Int) : recvOk wC ci_X4_result vs = true := Eq.trans rfl rfl
theorem rc_X4_held (vs : List Int) : recvOk wC ci_X4_held vs = true := Eq.trans rfl rfl
theorem rc_X4_work (vs : List Int) : recvOk wC ci_X4_work vs = isOb wC (vs.headD (-1)) 4 := Eq.trans rfl rfl
theorem rc_X4_worth (vs : List Int) : recvOk wC ci_X4_worth vs = isOb wC (vs.headD (-1)) 4 := Eq.trans rfl rfl
theorem rc_X4_lessonOf (vs : List Int) : recvOk wC ci_X4_lessonOf vs = isOb wC (vs.headD (-1)) 4 := Eq.trans rfl rfl
theorem rc_X2_grow (vs : List Int) : recvOk wC ci_X2_grow vs = isOb wC (vs.headD (-1)) 2 := Eq.trans rfl rfl
theorem rc_X2_mostFeared (vs : List Int) : recvOk wC ci_X2_mostFeared vs = isOb wC (vs.headD (-1)) 2 := Eq.trans rfl rfl
theorem rc_X2_pass (vs : List Int) : recvOk wC ci_X2_pass vs = isOb wC (vs.headD (-1)) 2 := Eq.trans rfl rfl
theorem rc_X2_artOf (vs : List Int) : recvOk wC ci_X2_artOf vs = isOb wC (vs.headD (-1)) 2 := Eq.trans rfl rfl
theorem rc_X2_artOfAll (vs : List Int) : recvOk wC ci_X2_artOfAll vs = isOb wC (vs.headD (-1)) 2 := Eq.trans rfl rfl
theorem rc_X5_write (vs : List Int) : recvOk wC ci_X5_write vs = isOb wC (vs.headD (-1)) 5 := Eq.trans rfl rfl
theorem rc_X10_passYear (vs : List Int) : recvOk wC ci_X10_passYear vs = isOb wC (vs.headD (-1)) 10 := Eq.trans rfl rfl
theorem rc_X10_years (vs : List Int) : recvOk wC ci_X10_years vs = isOb wC (vs.headD (-1)) 10 := Eq.trans rfl rfl
theorem rc_X10_bold (vs : List Int) : recvOk wC ci_X10_bold vs = isOb wC (vs.headD (-1)) 10 := Eq.trans rfl rfl
theorem rc_X10_stepped (vs : List Int) : recvOk wC ci_X10_stepped vs = true := Eq.trans rfl rfl
theorem rc_X10_drawn (vs : List Int) : recvOk wC ci_X10_drawn vs = true := Eq.trans rfl rfl
theorem rc_X10_showByDraws (vs : List Int) : recvOk wC ci_X10_showByDraws vs = isOb wC (vs.headD (-1)) 10 := Eq.trans rfl rfl
theorem rc_X10_comeByDraws (vs : List Int) : recvOk wC ci_X10_comeByDraws vs = isOb wC (vs.headD (-1)) 10 := Eq.trans rfl rfl
theorem rc_X10_winters (vs : List Int) : recvOk wC ci_X10_winters vs = isOb wC (vs.headD (-1)) 10 := Eq.trans rfl rfl
theorem rc_X10_status (vs : List Int) : recvOk wC ci_X10_status vs = isOb wC (vs.headD (-1)) 10 := Eq.trans rfl rfl
theorem rc_X0_takeBack (vs : List Int) : recvOk wC ci_X0_takeBack vs = isOb wC (vs.headD (-1)) 0 := Eq.trans rfl rfl
theorem rc_X10_undo (vs : List Int) : recvOk wC ci_X10_undo vs = isOb wC (vs.headD (-1)) 10 := Eq.trans rfl rfl
theorem rc_X10_logLength (vs : List Int) : recvOk wC ci_X10_logLength vs = isOb wC (vs.headD (-1)) 10 := Eq.trans rfl rfl
theorem rc_X5_read (vs : List Int) : recvOk wC ci_X5_read vs = isOb wC (vs.headD (-1)) 5 := Eq.trans rfl rfl
theorem rc_X10_log (vs : List Int) : recvOk wC ci_X10_log vs = isOb wC (vs.headD (-1)) 10 := Eq.trans rfl rfl
theorem rc_X2_copy (vs : List Int) : recvOk wC ci_X2_copy vs = isOb wC (vs.headD (-1)) 2 := Eq.trans rfl rfl
theorem rc_X5_copy (vs : List Int) : recvOk wC ci_X5_copy vs = isOb wC (vs.headD (-1)) 5 := Eq.trans rfl rfl
theorem rc_X10_image (vs : List Int) : recvOk wC ci_X10_image vs = isOb wC (vs.headD (-1)) 10 := Eq.trans rfl rfl
theorem rc_X10_back (vs : List Int) : recvOk wC ci_X10_back vs = isOb wC (vs.headD (-1)) 10 := Eq.trans rfl rfl
theorem rc_X10_chosen (vs : List Int) : recvOk wC ci_X10_chosen vs = isOb wC (vs.headD (-1)) 10 := Eq.trans rfl rfl
theorem rc_X2_rankedByFear (vs : List Int) : recvOk wC ci_X2_rankedByFear vs = isOb wC (vs.headD (-1)) 2 := Eq.trans rfl rfl
theorem rc_X10_order (vs : List Int) : recvOk wC ci_X10_order vs = isOb wC (vs.headD (-1)) 10 := Eq.trans rfl rfl
theorem rc_X10_safe (vs : List Int) : recvOk wC ci_X10_safe vs = isOb wC (vs.headD (-1)) 10 := Eq.trans rfl rfl
theorem rc_X9_stepAt (vs : List Int) : recvOk wC ci_X9_stepAt vs = isOb wC (vs.headD (-1)) 9 := Eq.trans rfl rfl
theorem rc_X9_tread (D : Nat → Den) (vs : List Int) : recvOk wC (ci_X9_tread D) vs = isOb wC (vs.headD (-1)) 9 := Eq.trans rfl rfl
theorem rc_X9_search (vs : List Int) : recvOk wC ci_X9_search vs = isOb wC (vs.headD (-1)) 9 := Eq.trans rfl rfl
theorem rc_X10_path (vs : List Int) : recvOk wC ci_X10_path vs = isOb wC (vs.headD (-1)) 10 := Eq.trans rfl rfl
theorem rc_X10_holds (vs : List Int) : recvOk wC ci_X10_holds vs = isOb wC (vs.headD (-1)) 10 := Eq.trans rfl rfl
theorem rc_X2_lotsOfAll (vs : List Int) : recvOk wC ci_X2_lotsOfAll vs = isOb wC (vs.headD (-1)) 2 := Eq.trans rfl rfl
theorem rc_X10_odds (vs : List Int) : recvOk wC ci_X10_odds vs = isOb wC (vs.headD (-1)) 10 := Eq.trans rfl rfl
theorem rc_X10_learns (vs : List Int) : recvOk wC ci_X10_learns vs = isOb wC (vs.headD (-1)) 10 := Eq.trans rfl rfl
theorem rc_X2_befriending (vs : List Int) : recvOk wC ci_X2_befriending vs = isOb wC (vs.headD (-1)) 2 := Eq.trans rfl rfl
theorem rc_X2_signs (vs : List Int) : recvOk wC ci_X2_signs vs = isOb wC (vs.headD (-1)) 2 := Eq.trans rfl rfl
theorem rc_X2_differsFromAll (vs : List Int) : recvOk wC ci_X2_differsFromAll vs = isOb wC (vs.headD (-1)) 2 := Eq.trans rfl rfl
theorem rc_X2_tellingSigns (vs : List Int) : recvOk wC ci_X2_tellingSigns vs = isOb wC (vs.headD (-1)) 2 := Eq.trans rfl rfl
theorem rc_X10_tells (vs : List Int) : recvOk wC ci_X10_tells vs = isOb wC (vs.headD (-1)) 10 := Eq.trans rfl rfl
theorem rc_X2_areTwins (vs : List Int) : recvOk wC ci_X2_areTwins vs = isOb wC (vs.headD (-1)) 2 := Eq.trans rfl rfl
theorem rc_X10_twins (vs : List Int) : recvOk wC ci_X10_twins vs = isOb wC (vs.headD (-1)) 10 := Eq.trans rfl rfl
theorem rc_X2_stepsBetween (vs : List Int) : recvOk wC ci_X2_stepsBetween vs = isOb wC (vs.headD (-1)) 2 := Eq.trans rfl rfl
theorem rc_X10_chain (vs : List Int) : recvOk wC ci_X10_chain vs = isOb wC (vs.headD (-1)) 10 := Eq.trans rfl rfl
theorem rc_X2_trusted (vs : List Int) : recvOk wC ci_X2_trusted vs = isOb wC (vs.headD (-1)) 2 := Eq.trans rfl rfl
theorem rc_X10_trusts (vs : List Int) : recvOk wC ci_X10_trusts vs = isOb wC (vs.headD (-1)) 10 := Eq.trans rfl rfl
theorem rc_X10_friends (vs : List Int) : recvOk wC ci_X10_friends vs = isOb wC (vs.headD (-1)) 10 := Eq.trans rfl rfl
theorem rc_X1_addSecret (vs : List Int) : recvOk wC ci_X1_addSecret vs = isOb wC (vs.headD (-1)) 1 := Eq.trans rfl rfl
theorem rc_X10_out (vs : List Int) : recvOk wC ci_X10_out vs = isOb wC (vs.headD (-1)) 10 := Eq.trans rfl rfl
theorem rc_X10_asksForSpies (vs : List Int) : recvOk wC ci_X10_asksForSpies vs = isOb wC (vs.headD (-1)) 10 := Eq.trans rfl rfl
theorem rc_X1_fits (vs : List Int) : recvOk wC ci_X1_fits vs = isOb wC (vs.headD (-1)) 1 := Eq.trans rfl rfl
theorem rc_X1_fits_ (vs : List Int) : recvOk wC ci_X1_fits_ vs = isOb wC (vs.headD (-1)) 1 := Eq.trans rfl rfl
theorem rc_X1_manyFitting (vs : List Int) : recvOk wC ci_X1_manyFitting vs = isOb wC (vs.headD (-1)) 1 := Eq.trans rfl rfl
theorem rc_X1_fitting (vs : List Int) : recvOk wC ci_X1_fitting vs = isOb wC (vs.headD (-1)) 1 := Eq.trans rfl rfl
theorem rc_X10_spies (vs : List Int) : recvOk wC ci_X10_spies vs = isOb wC (vs.headD (-1)) 10 := Eq.trans rfl rfl
theorem rc_X1_manyFittingWith (vs : List Int) : recvOk wC ci_X1_manyFittingWith vs = isOb wC (vs.headD (-1)) 1 := Eq.trans rfl rfl
theorem rc_X10_clear (vs : List Int) : recvOk wC ci_X10_clear vs = isOb wC (vs.headD (-1)) 10 := Eq.trans rfl rfl
theorem rc_X10_best (vs : List Int) : recvOk wC ci_X10_best vs = isOb wC (vs.headD (-1)) 10 := Eq.trans rfl rfl
theorem rc_X1_addGrave (vs : List Int) : recvOk wC ci_X1_addGrave vs = isOb wC (vs.headD (-1)) 1 := Eq.trans rfl rfl
theorem rc_X10_grave (vs : List Int) : recvOk wC ci_X10_grave vs = isOb wC (vs.headD (-1)) 10 := Eq.trans rfl rfl
theorem rc_X1_couldDig (vs : List Int) : recvOk wC ci_X1_couldDig vs = isOb wC (vs.headD (-1)) 1 := Eq.trans rfl rfl
theorem rc_X1_diggers (vs : List Int) : recvOk wC ci_X1_diggers vs = isOb wC (vs.headD (-1)) 1 := Eq.trans rfl rfl
theorem rc_X10_dug (vs : List Int) : recvOk wC ci_X10_dug vs = isOb wC (vs.headD (-1)) 10 := Eq.trans rfl rfl
theorem rc_X7_hoursTo (vs : List Int) : recvOk wC ci_X7_hoursTo vs = isOb wC (vs.headD (-1)) 7 := Eq.trans rfl rfl
theorem rc_X10_flight (vs : List Int) : recvOk wC ci_X10_flight vs = isOb wC (vs.headD (-1)) 10 := Eq.trans rfl rfl
theorem rc_X10_reach (vs : List Int) : recvOk wC ci_X10_reach vs = isOb wC (vs.headD (-1)) 10 := Eq.trans rfl rfl
theorem rc_X2_fewestWith (vs : List Int) : recvOk wC ci_X2_fewestWith vs = isOb wC (vs.headD (-1)) 2 := Eq.trans rfl rfl
theorem rc_X10_dare (vs : List Int) : recvOk wC ci_X10_dare vs = isOb wC (vs.headD (-1)) 10 := Eq.trans rfl rfl
theorem rc_X2_turningOrders (vs : List Int) : recvOk wC ci_X2_turningOrders vs = isOb wC (vs.headD (-1)) 2 := Eq.trans rfl rfl
theorem rc_X10_shares (vs : List Int) : recvOk wC ci_X10_shares vs = isOb wC (vs.headD (-1)) 10 := Eq.trans rfl rfl
theorem rc_X10_canPlay (vs : List Int) : recvOk wC ci_X10_canPlay vs = isOb wC (vs.headD (-1)) 10 := Eq.trans rfl rfl
theorem rc_X10_played (vs : List Int) : recvOk wC ci_X10_played vs = isOb wC (vs.headD (-1)) 10 := Eq.trans rfl rfl
theorem rc_X10_game (vs : List Int) : recvOk wC ci_X10_game vs = isOb wC (vs.headD (-1)) 10 := Eq.trans rfl rfl
theorem rc_X10_isRest (vs : List Int) : recvOk wC ci_X10_isRest vs = isOb wC (vs.headD (-1)) 10 := Eq.trans rfl rfl
theorem rc_X10_rests (vs : List Int) : recvOk wC ci_X10_rests vs = isOb wC (vs.headD (-1)) 10 := Eq.trans rfl rfl
theorem rc_X2_mostOf (vs : List Int) : recvOk wC ci_X2_mostOf vs = isOb wC (vs.headD (-1)) 2 := Eq.trans rfl rfl
theorem rc_X10_ablest (vs : List Int) : recvOk wC ci_X10_ablest vs = isOb wC (vs.headD (-1)) 10 := Eq.trans rfl rfl
theorem rc_X10_oldest (vs : List Int) : recvOk wC ci_X10_oldest vs = isOb wC (vs.headD (-1)) 10 := Eq.trans rfl rfl
theorem rc_X10_hides (vs : List Int) : recvOk wC ci_X10_hides vs = isOb wC (vs.headD (-1)) 10 := Eq.trans rfl rfl
theorem rc_X2_warned (vs : List Int) : recvOk wC ci_X2_warned vs = isOb wC (vs.headD (-1)) 2 := Eq.trans rfl rfl
theorem rc_X10_count (vs : List Int) : recvOk wC ci_X10_count vs = isOb wC (vs.headD (-1)) 10 := Eq.trans rfl rfl
theorem rc_J6_bitCount_0f7a4M (vs : List Int) : recvOk wM ci_J6_bitCount_0f7a4M vs = true := Eq.trans rfl rfl
theorem rc_X11_in (vs : List Int) : recvOk wM ci_X11_in vs = true := Eq.trans rfl rfl
theorem rc_X11_has (vs : List Int) : recvOk wM ci_X11_has vs = true := Eq.trans rfl rfl
theorem rc_X11_thrown (vs : List Int) : recvOk wM ci_X11_thrown vs = isOb wM (vs.headD (-1)) 11 := Eq.trans rfl rfl
theorem rc_X11_byteOf (vs : List Int) : recvOk wM ci_X11_byteOf vs = true := Eq.trans rfl rfl
theorem rc_X11_feed (vs : List Int) : recvOk wM ci_X11_feed vs = isOb wM (vs.headD (-1)) 11 := Eq.trans rfl rfl
theorem rc_X11_end (vs : List Int) : recvOk wM ci_X11_end vs = isOb wM (vs.headD (-1)) 11 := Eq.trans rfl rfl
theorem rc_X11_here (vs : List Int) : recvOk wM ci_X11_here vs = isOb wM (vs.headD (-1)) 11 := Eq.trans rfl rfl
theorem rc_X11_look (vs : List Int) : recvOk wM ci_X11_look vs = isOb wM (vs.headD (-1)) 11 := Eq.trans rfl rfl
theorem rc_X11_bad (vs : List Int) : recvOk wM ci_X11_bad vs = isOb wM (vs.headD (-1)) 11 := Eq.trans rfl rfl
theorem rc_X11_isDigit (vs : List Int) : recvOk wM ci_X11_isDigit vs = true := Eq.trans rfl rfl
theorem rc_X11_put (vs : List Int) : recvOk wM ci_X11_put vs = isOb wM (vs.headD (-1)) 11 := Eq.trans rfl rfl
theorem rc_X11_letterOf (vs : List Int) : recvOk wM ci_X11_letterOf vs = true := Eq.trans rfl rfl
theorem rc_X11_opens (vs : List Int) : recvOk wM ci_X11_opens vs = isOb wM (vs.headD (-1)) 11 := Eq.trans rfl rfl
theorem rc_X11_closes (vs : List Int) : recvOk wM ci_X11_closes vs = isOb wM (vs.headD (-1)) 11 := Eq.trans rfl rfl
theorem rc_X11_plainNumber (vs : List Int) : recvOk wM ci_X11_plainNumber vs = isOb wM (vs.headD (-1)) 11 := Eq.trans rfl rfl
theorem rc_X11_atom (D : Nat → Den) (vs : List Int) : recvOk wM (ci_X11_atom D) vs = isOb wM (vs.headD (-1)) 11 := Eq.trans rfl rfl
theorem rc_X11_sum (D : Nat → Den) (vs : List Int) : recvOk wM (ci_X11_sum D) vs = isOb wM (vs.headD (-1)) 11 := Eq.trans rfl rfl
theorem rc_X11_term (D : Nat → Den) (vs : List Int) : recvOk wM (ci_X11_term D) vs = isOb wM (vs.headD (-1)) 11 := Eq.trans rfl rfl
theorem rc_X11_isSign (vs : List Int) : recvOk wM ci_X11_isSign vs = true := Eq.trans rfl rfl
theorem rc_X11_compare (vs : List Int) : recvOk wM ci_X11_compare vs = isOb wM (vs.headD (-1)) 11 := Eq.trans rfl rfl
theorem rc_X11_condition (D : Nat → Den) (vs : List Int) : recvOk wM (ci_X11_condition D) vs = isOb wM (vs.headD (-1)) 11 := Eq.trans rfl rfl
theorem rc_X11_goOnAnd (D : Nat → Den) (vs : List Int) : recvOk wM (ci_X11_goOnAnd D) vs = isOb wM (vs.headD (-1)) 11 := Eq.trans rfl rfl
theorem rc_X11_goOnOr (D : Nat → Den) (vs : List Int) : recvOk wM (ci_X11_goOnOr D) vs = isOb wM (vs.headD (-1)) 11 := Eq.trans rfl rfl
theorem rc_X11_unit (D : Nat → Den) (vs : List Int) : recvOk wM (ci_X11_unit D) vs = isOb wM (vs.headD (-1)) 11 := Eq.trans rfl rfl
theorem rc_X11_clause (vs : List Int) : recvOk wM ci_X11_clause vs = isOb wM (vs.headD (-1)) 11 := Eq.trans rfl rfl
theorem rc_X11_open (vs : List Int) : recvOk wM ci_X11_open vs = isOb wM (vs.headD (-1)) 11 := Eq.trans rfl rfl
theorem rc_X11_atEnd (vs : List Int) : recvOk wM ci_X11_atEnd vs = isOb wM (vs.headD (-1)) 11 := Eq.trans rfl rfl
theorem rc_X11_readLaw (vs : List Int) : recvOk wM ci_X11_readLaw vs = isOb wM (vs.headD (-1)) 11 := Eq.trans rfl rfl
theorem rc_X11_bounded (vs : List Int) : recvOk wM ci_X11_bounded vs = true := Eq.trans rfl rfl
theorem rc_X11_worked (vs : List Int) : recvOk wM ci_X11_worked vs = true := Eq.trans rfl rfl
theorem rc_X11_workOut (vs : List Int) : recvOk wM ci_X11_workOut vs = isOb wM (vs.headD (-1)) 11 := Eq.trans rfl rfl
theorem rc_X11_worthOf (vs : List Int) : recvOk wM ci_X11_worthOf vs = isOb wM (vs.headD (-1)) 11 := Eq.trans rfl rfl
theorem rc_X11_number (vs : List Int) : recvOk wM ci_X11_number vs = isOb wM (vs.headD (-1)) 11 := Eq.trans rfl rfl
theorem rc_X11_itemOf (vs : List Int) : recvOk wM ci_X11_itemOf vs = true := Eq.trans rfl rfl
theorem rc_X11_lowest (vs : List Int) : recvOk wM ci_X11_lowest vs = true := Eq.trans rfl rfl
theorem rc_X11_highest (vs : List Int) : recvOk wM ci_X11_highest vs = true := Eq.trans rfl rfl
theorem rc_X11_usual (vs : List Int) : recvOk wM ci_X11_usual vs = true := Eq.trans rfl rfl
theorem rc_X11_items (vs : List Int) : recvOk wM ci_X11_items vs = isOb wM (vs.headD (-1)) 11 := Eq.trans rfl rfl
theorem rc_X11_isWhole (vs : List Int) : recvOk wM ci_X11_isWhole vs = isOb wM (vs.headD (-1)) 11 := Eq.trans rfl rfl
theorem rc_X11_readMill (vs : List Int) : recvOk wM ci_X11_readMill vs = isOb wM (vs.headD (-1)) 11 := Eq.trans rfl rfl
theorem rc_X11_fault (vs : List Int) : recvOk wM ci_X11_fault vs = isOb wM (vs.headD (-1)) 11 := Eq.trans rfl rfl
theorem rc_X11_lay (vs : List Int) : recvOk wM ci_X11_lay vs = isOb wM (vs.headD (-1)) 11 := Eq.trans rfl rfl
theorem rc_X11_of (vs : List Int) : recvOk wM ci_X11_of vs = isOb wM (vs.headD (-1)) 11 := Eq.trans rfl rfl
theorem rc_X11_takeMill (vs : List Int) : recvOk wM ci_X11_takeMill vs = isOb wM (vs.headD (-1)) 11 := Eq.trans rfl rfl
theorem rc_X11_text (vs : List Int) : recvOk wM ci_X11_text vs = isOb wM (vs.headD (-1)) 11 := Eq.trans rfl rfl
theorem rc_X11_isLad (vs : List Int) : recvOk wM ci_X11_isLad vs = isOb wM (vs.headD (-1)) 11 := Eq.trans rfl rfl
theorem rc_X11_lives (vs : List Int) : recvOk wM ci_X11_lives vs = isOb wM (vs.headD (-1)) 11 := Eq.trans rfl rfl
theorem rc_X11_living (vs : List Int) : recvOk wM ci_X11_living vs = isOb wM (vs.headD (-1)) 11 := Eq.trans rfl rfl
theorem rc_X11_manyLive (vs : List Int) : recvOk wM ci_X11_manyLive vs = isOb wM (vs.headD (-1)) 11 := Eq.trans rfl rfl
theorem rc_X11_fearBy (vs : List Int) : recvOk wM ci_X11_fearBy vs = isOb wM (vs.headD (-1)) 11 := Eq.trans rfl rfl
theorem rc_X11_fear (vs : List Int) : recvOk wM ci_X11_fear vs = isOb wM (vs.headD (-1)) 11 := Eq.trans rfl rfl
theorem rc_X11_chosenNow (vs : List Int) : recvOk wM ci_X11_chosenNow vs = isOb wM (vs.headD (-1)) 11 := Eq.trans rfl rfl
theorem rc_X11_friendsOf (vs : List Int) : recvOk wM ci_X11_friendsOf vs = isOb wM (vs.headD (-1)) 11 := Eq.trans rfl rfl
theorem rc_X11_signs (vs : List Int) : recvOk wM ci_X11_signs vs = isOb wM (vs.headD (-1)) 11 := Eq.trans rfl rfl
theorem rc_X11_master (vs : List Int) : recvOk wM ci_X11_master vs = isOb wM (vs.headD (-1)) 11 := Eq.trans rfl rfl
theorem rc_X11_lad (vs : List Int) : recvOk wM ci_X11_lad vs = isOb wM (vs.headD (-1)) 11 := Eq.trans rfl rfl
theorem rc_X11_way (vs : List Int) : recvOk wM ci_X11_way vs = isOb wM (vs.headD (-1)) 11 := Eq.trans rfl rfl
theorem rc_X11_law (vs : List Int) : recvOk wM ci_X11_law vs = isOb wM (vs.headD (-1)) 11 := Eq.trans rfl rfl
theorem rc_X11_learnsBy (vs : List Int) : recvOk wM ci_X11_learnsBy vs = isOb wM (vs.headD (-1)) 11 := Eq.trans rfl rfl
theorem rc_X11_live (vs : List Int) : recvOk wM ci_X11_live vs = isOb wM (vs.headD (-1)) 11 := Eq.trans rfl rfl
theorem rc_X11_artOf (vs : List Int) : recvOk wM ci_X11_artOf vs = isOb wM (vs.headD (-1)) 11 := Eq.trans rfl rfl
theorem rc_X11_passYear (vs : List Int) : recvOk wM ci_X11_passYear vs = isOb wM (vs.headD (-1)) 11 := Eq.trans rfl rfl
theorem rc_X11_keep (vs : List Int) : recvOk wM ci_X11_keep vs = isOb wM (vs.headD (-1)) 11 := Eq.trans rfl rfl
theorem rc_X11_isRefused (vs : List Int) : recvOk wM ci_X11_isRefused vs = isOb wM (vs.headD (-1)) 11 := Eq.trans rfl rfl
theorem rc_X11_show (vs : List Int) : recvOk wM ci_X11_show vs = isOb wM (vs.headD (-1)) 11 := Eq.trans rfl rfl
theorem rc_X11_warn (vs : List Int) : recvOk wM ci_X11_warn vs = isOb wM (vs.headD (-1)) 11 := Eq.trans rfl rfl
theorem rc_X11_leave (vs : List Int) : recvOk wM ci_X11_leave vs = isOb wM (vs.headD (-1)) 11 := Eq.trans rfl rfl
theorem rc_X11_comeNow (vs : List Int) : recvOk wM ci_X11_comeNow vs = isOb wM (vs.headD (-1)) 11 := Eq.trans rfl rfl
theorem rc_X11_come (vs : List Int) : recvOk wM ci_X11_come vs = isOb wM (vs.headD (-1)) 11 := Eq.trans rfl rfl
theorem rc_X11_years (vs : List Int) : recvOk wM ci_X11_years vs = isOb wM (vs.headD (-1)) 11 := Eq.trans rfl rfl
theorem rc_X11_bold (vs : List Int) : recvOk wM ci_X11_bold vs = isOb wM (vs.headD (-1)) 11 := Eq.trans rfl rfl
theorem rc_X11_draw (vs : List Int) : recvOk wM ci_X11_draw vs = isOb wM (vs.headD (-1)) 11 := Eq.trans rfl rfl
theorem rc_X11_drawLads (vs : List Int) : recvOk wM ci_X11_drawLads vs = isOb wM (vs.headD (-1)) 11 := Eq.trans rfl rfl
theorem rc_X11_winters (vs : List Int) : recvOk wM ci_X11_winters vs = isOb wM (vs.headD (-1)) 11 := Eq.trans rfl rfl
theorem rc_X11_status (vs : List Int) : recvOk wM ci_X11_status vs = isOb wM (vs.headD (-1)) 11 := Eq.trans rfl rfl
theorem rc_X11_undo (vs : List Int) : recvOk wM ci_X11_undo vs = isOb wM (vs.headD (-1)) 11 := Eq.trans rfl rfl
theorem rc_X11_log (vs : List Int) : recvOk wM ci_X11_log vs = isOb wM (vs.headD (-1)) 11 := Eq.trans rfl rfl
theorem rc_X11_chosen (vs : List Int) : recvOk wM ci_X11_chosen vs = isOb wM (vs.headD (-1)) 11 := Eq.trans rfl rfl
theorem rc_X11_putAside (vs : List Int) : recvOk wM ci_X11_putAside vs = isOb wM (vs.headD (-1)) 11 := Eq.trans rfl rfl
theorem rc_X11_takeBack (vs : List Int) : recvOk wM ci_X11_takeBack vs = isOb wM (vs.headD (-1)) 11 := Eq.trans rfl rfl
theorem rc_X11_tryPath (D : Nat → Den) (vs : List Int) : recvOk wM (ci_X11_tryPath D) vs = isOb wM (vs.headD (-1)) 11 := Eq.trans rfl rfl
theorem rc_X11_path (vs : List Int) : recvOk wM ci_X11_path vs = isOb wM (vs.headD (-1)) 11 := Eq.trans rfl rfl
theorem rc_X11_holds (vs : List Int) : recvOk wM ci_X11_holds vs = isOb wM (vs.headD (-1)) 11 := Eq.trans rfl rfl
theorem rc_X11_tells (vs : List Int) : recvOk wM ci_X11_tells vs = isOb wM (vs.headD (-1)) 11 := Eq.trans rfl rfl
theorem rc_X11_twins (vs : List Int) : recvOk wM ci_X11_twins vs = isOb wM (vs.headD (-1)) 11 := Eq.trans rfl rfl
theorem rc_X11_chain (vs : List Int) : recvOk wM ci_X11_chain vs = isOb wM (vs.headD (-1)) 11 := Eq.trans rfl rfl
theorem rc_X11_trusts (vs : List Int) : recvOk wM ci_X11_trusts vs = isOb wM (vs.headD (-1)) 11 := Eq.trans rfl rfl
theorem rc_X11_out (vs : List Int) : recvOk wM ci_X11_out vs = isOb wM (vs.headD (-1)) 11 := Eq.trans rfl rfl
theorem rc_X11_isSpies (vs : List Int) : recvOk wM ci_X11_isSpies vs = isOb wM (vs.headD (-1)) 11 := Eq.trans rfl rfl
theorem rc_X11_areSpies (vs : List Int) : recvOk wM ci_X11_areSpies vs = isOb wM (vs.headD (-1)) 11 := Eq.trans rfl rfl
theorem rc_X11_spies (vs : List Int) : recvOk wM ci_X11_spies vs = isOb wM (vs.headD (-1)) 11 := Eq.trans rfl rfl
theorem rc_X11_clear (vs : List Int) : recvOk wM ci_X11_clear vs = isOb wM (vs.headD (-1)) 11 := Eq.trans rfl rfl
theorem rc_X11_best (vs : List Int) : recvOk wM ci_X11_best vs = isOb wM (vs.headD (-1)) 11 := Eq.trans rfl rfl
theorem rc_X11_layHours (vs : List Int) : recvOk wM ci_X11_layHours vs = isOb wM (vs.headD (-1)) 11 := Eq.trans rfl rfl
theorem rc_X11_flight (vs : List Int) : recvOk wM ci_X11_flight vs = isOb wM (vs.headD (-1)) 11 := Eq.trans rfl rfl
theorem rc_X11_reach (vs : List Int) : recvOk wM ci_X11_reach vs = isOb wM (vs.headD (-1)) 11 := Eq.trans rfl rfl
theorem rc_X11_dare (vs : List Int) : recvOk wM ci_X11_dare vs = isOb wM (vs.headD (-1)) 11 := Eq.trans rfl rfl
theorem rc_X11_ordersOf (vs : List Int) : recvOk wM ci_X11_ordersOf vs = true := Eq.trans rfl rfl
theorem rc_X11_pivots (D : Nat → Den) (vs : List Int) : recvOk wM (ci_X11_pivots D) vs = isOb wM (vs.headD (-1)) 11 := Eq.trans rfl rfl
theorem rc_X11_shares (vs : List Int) : recvOk wM ci_X11_shares vs = isOb wM (vs.headD (-1)) 11 := Eq.trans rfl rfl
theorem rc_X11_gameOf (vs : List Int) : recvOk wM ci_X11_gameOf vs = isOb wM (vs.headD (-1)) 11 := Eq.trans rfl rfl
theorem rc_X11_areTwo (vs : List Int) : recvOk wM ci_X11_areTwo vs = isOb wM (vs.headD (-1)) 11 := Eq.trans rfl rfl
theorem rc_X11_game (vs : List Int) : recvOk wM ci_X11_game vs = isOb wM (vs.headD (-1)) 11 := Eq.trans rfl rfl
theorem rc_X11_rests (vs : List Int) : recvOk wM ci_X11_rests vs = isOb wM (vs.headD (-1)) 11 := Eq.trans rfl rfl
theorem rc_X11_grave (vs : List Int) : recvOk wM ci_X11_grave vs = isOb wM (vs.headD (-1)) 11 := Eq.trans rfl rfl
theorem rc_X11_dug (vs : List Int) : recvOk wM ci_X11_dug vs = isOb wM (vs.headD (-1)) 11 := Eq.trans rfl rfl
theorem rc_X11_odds (vs : List Int) : recvOk wM ci_X11_odds vs = isOb wM (vs.headD (-1)) 11 := Eq.trans rfl rfl
theorem rc_X11_mostOf (vs : List Int) : recvOk wM ci_X11_mostOf vs = isOb wM (vs.headD (-1)) 11 := Eq.trans rfl rfl
theorem rc_X11_ablest (vs : List Int) : recvOk wM ci_X11_ablest vs = isOb wM (vs.headD (-1)) 11 := Eq.trans rfl rfl
theorem rc_X11_hides (vs : List Int) : recvOk wM ci_X11_hides vs = isOb wM (vs.headD (-1)) 11 := Eq.trans rfl rfl
theorem rc_X11_order (vs : List Int) : recvOk wM ci_X11_order vs = isOb wM (vs.headD (-1)) 11 := Eq.trans rfl rfl
theorem rc_X11_safe (vs : List Int) : recvOk wM ci_X11_safe vs = isOb wM (vs.headD (-1)) 11 := Eq.trans rfl rfl
theorem rc_X11_friends (vs : List Int) : recvOk wM ci_X11_friends vs = isOb wM (vs.headD (-1)) 11 := Eq.trans rfl rfl
theorem rc_X11_oldest (vs : List Int) : recvOk wM ci_X11_oldest vs = isOb wM (vs.headD (-1)) 11 := Eq.trans rfl rfl
theorem rc_X11_learns (vs : List Int) : recvOk wM ci_X11_learns vs = isOb wM (vs.headD (-1)) 11 := Eq.trans rfl rfl
theorem rc_X11_image (vs : List Int) : recvOk wM ci_X11_image vs = isOb wM (vs.headD (-1)) 11 := Eq.trans rfl rfl
theorem rc_X11_back (vs : List Int) : recvOk wM ci_X11_back vs = isOb wM (vs.headD (-1)) 11 := Eq.trans rfl rfl
theorem rc_X11_count (vs : List Int) : recvOk wM ci_X11_count vs = isOb wM (vs.headD (-1)) 11 := Eq.trans rfl rfl
