/-! THE TWO WORLDS: layouts, by program (wip/whole/gen/lay.py) -/
def LYM : List Sh := .inl (11, 0 :: 3 :: 0 :: 0 :: 0 :: 0 :: 4 :: 5 :: 6 :: 7 :: 0 :: 0 :: 0 :: 0 :: 0 :: 0 :: 1 :: 0 :: 0 :: 0 :: 0 :: 0 :: 8 :: 9 :: 10 :: 0 :: 0 :: 0 :: 11 :: 12 :: 13 :: 0 :: 0 :: 1 :: 0 :: 14 :: 15 :: 0 :: 16 :: 17 :: 18 :: 0 :: 0 :: 0 :: 0 :: 0 :: 19 :: 0 :: 1 :: 1 :: 1 :: 20 :: 21 :: 22 :: 23 :: 0 :: 0 :: 24 :: 25 :: []) :: .inr (940, 1, 0) :: .inr (82, 0, 0) :: .inr (82, 0, 0) :: .inr (20, 3, 0) :: .inr (8, 3, 0) :: .inr (60, 0, 0) :: .inr (2800, 0, 0) :: .inr (110, 0, 0) :: .inr (100, 0, 0) :: .inr (101, 0, 0) :: .inr (60, 0, 0) :: .inr (470, 0, 0) :: .inr (3, 0, 0) :: .inr (3, 0, 0) :: .inr (3, 0, 0) :: .inr (3, 0, 0) :: .inr (10, 0, 0) :: .inr (28, 0, 0) :: .inr (28, 0, 0) :: .inr (7424, 0, 0) :: .inr (8, 0, 0) :: .inr (164, 0, 0) :: .inr (2, 2, 0) :: []
def LYC1 (x nw dr : Nat) : List Sh := .inl (10, 3 :: 5 :: (nw + 2) :: (dr + 2) :: 85 :: 86 :: 87 :: 9 :: 97 :: 90 :: 96 :: 15 :: 17 :: 19 :: 0 :: 21 :: 0 :: 23 :: []) :: .inl (8, 4 :: 0 :: []) :: .inr (940, 0, 0) :: .inl (4, 0 :: 0 :: (x + 2) :: 0 :: 0 :: 0 :: 0 :: 1 :: 0 :: 0 :: 0 :: 6 :: 7 :: []) :: .inr (6, 3, 0) :: .inr (4, 3, 0) :: .inr (0, 0, 0) :: .inl (6, 10 :: 11 :: 13 :: 1 :: []) :: .inr (46, 0, 0) :: .inl (9, 12 :: 0 :: []) :: .inr (46, 0, 0) :: .inl (9, 14 :: 0 :: []) :: .inr (46, 0, 0) :: .inl (9, 16 :: 0 :: []) :: .inr (3, 0, 0) :: .inl (9, 18 :: 0 :: []) :: .inr (3, 0, 0) :: .inl (9, 20 :: 0 :: []) :: .inr (3, 0, 0) :: .inl (9, 22 :: 0 :: []) :: .inr (2, 0, 0) :: .inl (9, 24 :: 0 :: []) :: .inr (10, 0, 0) :: .inl (7, 29 :: 37 :: 0 :: 0 :: 61 :: 65 :: 0 :: 69 :: 73 :: 77 :: 81 :: []) :: .inl (7, 30 :: 38 :: 0 :: 0 :: 62 :: 66 :: 0 :: 70 :: 74 :: 78 :: 82 :: []) :: .inl (7, 31 :: 39 :: 0 :: 0 :: 63 :: 67 :: 0 :: 71 :: 75 :: 79 :: 83 :: []) :: .inl (7, 32 :: 40 :: 0 :: 0 :: 64 :: 68 :: 0 :: 72 :: 76 :: 80 :: 84 :: []) :: .inl (2, 0 :: 0 :: 0 :: 33 :: []) :: .inl (2, 0 :: 0 :: 0 :: 34 :: []) :: .inl (2, 0 :: 0 :: 0 :: 35 :: []) :: .inl (2, 0 :: 0 :: 0 :: 36 :: []) :: .inr (60, 0, 0) :: .inr (60, 0, 0) :: .inr (60, 0, 0) :: .inr (60, 0, 0) :: .inl (0, 0 :: 41 :: 45 :: 0 :: 49 :: 53 :: 57 :: 1 :: 1 :: 1 :: []) :: .inl (0, 0 :: 42 :: 46 :: 0 :: 50 :: 54 :: 58 :: 1 :: 1 :: 1 :: []) :: .inl (0, 0 :: 43 :: 47 :: 0 :: 51 :: 55 :: 59 :: 1 :: 1 :: 1 :: []) :: .inl (0, 0 :: 44 :: 48 :: 0 :: 52 :: 56 :: 60 :: 1 :: 1 :: 1 :: []) :: .inr (4, 0, 0) :: .inr (4, 0, 0) :: .inr (4, 0, 0) :: .inr (4, 0, 0) :: .inr (4, 0, 0) :: .inr (4, 0, 0) :: .inr (4, 0, 0) :: .inr (4, 0, 0) :: .inr (8, 0, 0) :: .inr (8, 0, 0) :: .inr (8, 0, 0) :: .inr (8, 0, 0) :: .inr (8, 0, 0) :: .inr (8, 0, 0) :: .inr (8, 0, 0) :: .inr (8, 0, 0) :: .inr (8, 0, 0) :: .inr (8, 0, 0) :: .inr (8, 0, 0) :: .inr (8, 0, 0) :: .inr (10, 0, 0) :: .inr (10, 0, 0) :: .inr (10, 0, 0) :: .inr (10, 0, 0) :: .inr (10, 0, 0) :: .inr (10, 0, 0) :: .inr (10, 0, 0) :: .inr (10, 0, 0) :: .inr (6, 0, 0) :: .inr (6, 0, 0) :: .inr (6, 0, 0) :: .inr (6, 0, 0) :: .inr (6, 0, 0) :: .inr (6, 0, 0) :: .inr (6, 0, 0) :: .inr (6, 0, 0) :: .inr (6, 0, 0) :: .inr (6, 0, 0) :: .inr (6, 0, 0) :: .inr (6, 0, 0) :: .inr (6, 0, 0) :: .inr (6, 0, 0) :: .inr (6, 0, 0) :: .inr (6, 0, 0) :: .inr (2, 5, 25) :: .inr (2, 2, 0) :: .inl (5, 88 :: 89 :: []) :: .inr (46, 4, 103) :: .inr (46, 0, 0) :: .inl (1, 91 :: 0 :: 93 :: 94 :: 95 :: 0 :: []) :: .inl (9, 92 :: 0 :: []) :: .inr (8, 0, 0) :: .inr (28, 0, 0) :: .inr (28, 0, 0) :: .inr (8, 0, 0) :: .inr (10, 0, 0) :: .inl (3, 0 :: 98 :: 0 :: 0 :: 0 :: 99 :: 0 :: 100 :: 101 :: 102 :: 103 :: 104 :: 0 :: []) :: .inr (3, 0, 0) :: .inr (60, 4, 149) :: .inr (10, 0, 0) :: .inr (3, 4, 209) :: .inr (3, 4, 212) :: .inr (3, 0, 0) :: .inr (3, 0, 0) :: []
def LYC2 : List Sh := List.replicate 46 (.inr (70, 0, 0)) ++ List.replicate 66 (.inr (10, 0, 0))
def LYC (x nw dr : Nat) : List Sh := LYC1 x nw dr ++ LYC2
theorem lyM_0 : LYM[0]? = some (Sum.inl (11, 0 :: 3 :: 0 :: 0 :: 0 :: 0 :: 4 :: 5 :: 6 :: 7 :: 0 :: 0 :: 0 :: 0 :: 0 :: 0 :: 1 :: 0 :: 0 :: 0 :: 0 :: 0 :: 8 :: 9 :: 10 :: 0 :: 0 :: 0 :: 11 :: 12 :: 13 :: 0 :: 0 :: 1 :: 0 :: 14 :: 15 :: 0 :: 16 :: 17 :: 18 :: 0 :: 0 :: 0 :: 0 :: 0 :: 19 :: 0 :: 1 :: 1 :: 1 :: 20 :: 21 :: 22 :: 23 :: 0 :: 0 :: 24 :: 25 :: [])) := rfl
theorem lyM_1 : LYM[1]? = some (Sum.inr (940, 1, 0)) := rfl
theorem lyM_2 : LYM[2]? = some (Sum.inr (82, 0, 0)) := rfl
theorem lyM_3 : LYM[3]? = some (Sum.inr (82, 0, 0)) := rfl
theorem lyM_4 : LYM[4]? = some (Sum.inr (20, 3, 0)) := rfl
theorem lyM_5 : LYM[5]? = some (Sum.inr (8, 3, 0)) := rfl
theorem lyM_6 : LYM[6]? = some (Sum.inr (60, 0, 0)) := rfl
theorem lyM_7 : LYM[7]? = some (Sum.inr (2800, 0, 0)) := rfl
theorem lyM_8 : LYM[8]? = some (Sum.inr (110, 0, 0)) := rfl
theorem lyM_9 : LYM[9]? = some (Sum.inr (100, 0, 0)) := rfl
theorem lyM_10 : LYM[10]? = some (Sum.inr (101, 0, 0)) := rfl
theorem lyM_11 : LYM[11]? = some (Sum.inr (60, 0, 0)) := rfl
theorem lyM_12 : LYM[12]? = some (Sum.inr (470, 0, 0)) := rfl
theorem lyM_13 : LYM[13]? = some (Sum.inr (3, 0, 0)) := rfl
theorem lyM_14 : LYM[14]? = some (Sum.inr (3, 0, 0)) := rfl
theorem lyM_15 : LYM[15]? = some (Sum.inr (3, 0, 0)) := rfl
theorem lyM_16 : LYM[16]? = some (Sum.inr (3, 0, 0)) := rfl
theorem lyM_17 : LYM[17]? = some (Sum.inr (10, 0, 0)) := rfl
theorem lyM_18 : LYM[18]? = some (Sum.inr (28, 0, 0)) := rfl
theorem lyM_19 : LYM[19]? = some (Sum.inr (28, 0, 0)) := rfl
theorem lyM_20 : LYM[20]? = some (Sum.inr (7424, 0, 0)) := rfl
theorem lyM_21 : LYM[21]? = some (Sum.inr (8, 0, 0)) := rfl
theorem lyM_22 : LYM[22]? = some (Sum.inr (164, 0, 0)) := rfl
theorem lyM_23 : LYM[23]? = some (Sum.inr (2, 2, 0)) := rfl
theorem lyC1_len {x nw dr : Nat} : (LYC1 x nw dr).length = 103 := rfl
theorem lyC_0 {x nw dr : Nat} : (LYC x nw dr)[0]? = some (Sum.inl (10, 3 :: 5 :: (nw + 2) :: (dr + 2) :: 85 :: 86 :: 87 :: 9 :: 97 :: 90 :: 96 :: 15 :: 17 :: 19 :: 0 :: 21 :: 0 :: 23 :: [])) := by rw [LYC, List.getElem?_append_left (by rw [lyC1_len]; decide)]; rfl
theorem lyC_1 {x nw dr : Nat} : (LYC x nw dr)[1]? = some (Sum.inl (8, 4 :: 0 :: [])) := by rw [LYC, List.getElem?_append_left (by rw [lyC1_len]; decide)]; rfl
theorem lyC_2 {x nw dr : Nat} : (LYC x nw dr)[2]? = some (Sum.inr (940, 0, 0)) := by rw [LYC, List.getElem?_append_left (by rw [lyC1_len]; decide)]; rfl
theorem lyC_3 {x nw dr : Nat} : (LYC x nw dr)[3]? = some (Sum.inl (4, 0 :: 0 :: (x + 2) :: 0 :: 0 :: 0 :: 0 :: 1 :: 0 :: 0 :: 0 :: 6 :: 7 :: [])) := by rw [LYC, List.getElem?_append_left (by rw [lyC1_len]; decide)]; rfl
theorem lyC_4 {x nw dr : Nat} : (LYC x nw dr)[4]? = some (Sum.inr (6, 3, 0)) := by rw [LYC, List.getElem?_append_left (by rw [lyC1_len]; decide)]; rfl
theorem lyC_5 {x nw dr : Nat} : (LYC x nw dr)[5]? = some (Sum.inr (4, 3, 0)) := by rw [LYC, List.getElem?_append_left (by rw [lyC1_len]; decide)]; rfl
theorem lyC_6 {x nw dr : Nat} : (LYC x nw dr)[6]? = some (Sum.inr (0, 0, 0)) := by rw [LYC, List.getElem?_append_left (by rw [lyC1_len]; decide)]; rfl
theorem lyC_7 {x nw dr : Nat} : (LYC x nw dr)[7]? = some (Sum.inl (6, 10 :: 11 :: 13 :: 1 :: [])) := by rw [LYC, List.getElem?_append_left (by rw [lyC1_len]; decide)]; rfl
theorem lyC_8 {x nw dr : Nat} : (LYC x nw dr)[8]? = some (Sum.inr (46, 0, 0)) := by rw [LYC, List.getElem?_append_left (by rw [lyC1_len]; decide)]; rfl
theorem lyC_9 {x nw dr : Nat} : (LYC x nw dr)[9]? = some (Sum.inl (9, 12 :: 0 :: [])) := by rw [LYC, List.getElem?_append_left (by rw [lyC1_len]; decide)]; rfl
theorem lyC_10 {x nw dr : Nat} : (LYC x nw dr)[10]? = some (Sum.inr (46, 0, 0)) := by rw [LYC, List.getElem?_append_left (by rw [lyC1_len]; decide)]; rfl
theorem lyC_11 {x nw dr : Nat} : (LYC x nw dr)[11]? = some (Sum.inl (9, 14 :: 0 :: [])) := by rw [LYC, List.getElem?_append_left (by rw [lyC1_len]; decide)]; rfl
theorem lyC_12 {x nw dr : Nat} : (LYC x nw dr)[12]? = some (Sum.inr (46, 0, 0)) := by rw [LYC, List.getElem?_append_left (by rw [lyC1_len]; decide)]; rfl
theorem lyC_13 {x nw dr : Nat} : (LYC x nw dr)[13]? = some (Sum.inl (9, 16 :: 0 :: [])) := by rw [LYC, List.getElem?_append_left (by rw [lyC1_len]; decide)]; rfl
theorem lyC_14 {x nw dr : Nat} : (LYC x nw dr)[14]? = some (Sum.inr (3, 0, 0)) := by rw [LYC, List.getElem?_append_left (by rw [lyC1_len]; decide)]; rfl
theorem lyC_15 {x nw dr : Nat} : (LYC x nw dr)[15]? = some (Sum.inl (9, 18 :: 0 :: [])) := by rw [LYC, List.getElem?_append_left (by rw [lyC1_len]; decide)]; rfl
theorem lyC_16 {x nw dr : Nat} : (LYC x nw dr)[16]? = some (Sum.inr (3, 0, 0)) := by rw [LYC, List.getElem?_append_left (by rw [lyC1_len]; decide)]; rfl
theorem lyC_17 {x nw dr : Nat} : (LYC x nw dr)[17]? = some (Sum.inl (9, 20 :: 0 :: [])) := by rw [LYC, List.getElem?_append_left (by rw [lyC1_len]; decide)]; rfl
theorem lyC_18 {x nw dr : Nat} : (LYC x nw dr)[18]? = some (Sum.inr (3, 0, 0)) := by rw [LYC, List.getElem?_append_left (by rw [lyC1_len]; decide)]; rfl
theorem lyC_19 {x nw dr : Nat} : (LYC x nw dr)[19]? = some (Sum.inl (9, 22 :: 0 :: [])) := by rw [LYC, List.getElem?_append_left (by rw [lyC1_len]; decide)]; rfl
theorem lyC_20 {x nw dr : Nat} : (LYC x nw dr)[20]? = some (Sum.inr (2, 0, 0)) := by rw [LYC, List.getElem?_append_left (by rw [lyC1_len]; decide)]; rfl
theorem lyC_21 {x nw dr : Nat} : (LYC x nw dr)[21]? = some (Sum.inl (9, 24 :: 0 :: [])) := by rw [LYC, List.getElem?_append_left (by rw [lyC1_len]; decide)]; rfl
theorem lyC_22 {x nw dr : Nat} : (LYC x nw dr)[22]? = some (Sum.inr (10, 0, 0)) := by rw [LYC, List.getElem?_append_left (by rw [lyC1_len]; decide)]; rfl
theorem lyC_23 {x nw dr : Nat} : (LYC x nw dr)[23]? = some (Sum.inl (7, 29 :: 37 :: 0 :: 0 :: 61 :: 65 :: 0 :: 69 :: 73 :: 77 :: 81 :: [])) := by rw [LYC, List.getElem?_append_left (by rw [lyC1_len]; decide)]; rfl
theorem lyC_24 {x nw dr : Nat} : (LYC x nw dr)[24]? = some (Sum.inl (7, 30 :: 38 :: 0 :: 0 :: 62 :: 66 :: 0 :: 70 :: 74 :: 78 :: 82 :: [])) := by rw [LYC, List.getElem?_append_left (by rw [lyC1_len]; decide)]; rfl
theorem lyC_25 {x nw dr : Nat} : (LYC x nw dr)[25]? = some (Sum.inl (7, 31 :: 39 :: 0 :: 0 :: 63 :: 67 :: 0 :: 71 :: 75 :: 79 :: 83 :: [])) := by rw [LYC, List.getElem?_append_left (by rw [lyC1_len]; decide)]; rfl
theorem lyC_26 {x nw dr : Nat} : (LYC x nw dr)[26]? = some (Sum.inl (7, 32 :: 40 :: 0 :: 0 :: 64 :: 68 :: 0 :: 72 :: 76 :: 80 :: 84 :: [])) := by rw [LYC, List.getElem?_append_left (by rw [lyC1_len]; decide)]; rfl
theorem lyC_27 {x nw dr : Nat} : (LYC x nw dr)[27]? = some (Sum.inl (2, 0 :: 0 :: 0 :: 33 :: [])) := by rw [LYC, List.getElem?_append_left (by rw [lyC1_len]; decide)]; rfl
theorem lyC_28 {x nw dr : Nat} : (LYC x nw dr)[28]? = some (Sum.inl (2, 0 :: 0 :: 0 :: 34 :: [])) := by rw [LYC, List.getElem?_append_left (by rw [lyC1_len]; decide)]; rfl
theorem lyC_29 {x nw dr : Nat} : (LYC x nw dr)[29]? = some (Sum.inl (2, 0 :: 0 :: 0 :: 35 :: [])) := by rw [LYC, List.getElem?_append_left (by rw [lyC1_len]; decide)]; rfl
theorem lyC_30 {x nw dr : Nat} : (LYC x nw dr)[30]? = some (Sum.inl (2, 0 :: 0 :: 0 :: 36 :: [])) := by rw [LYC, List.getElem?_append_left (by rw [lyC1_len]; decide)]; rfl
theorem lyC_31 {x nw dr : Nat} : (LYC x nw dr)[31]? = some (Sum.inr (60, 0, 0)) := by rw [LYC, List.getElem?_append_left (by rw [lyC1_len]; decide)]; rfl
theorem lyC_32 {x nw dr : Nat} : (LYC x nw dr)[32]? = some (Sum.inr (60, 0, 0)) := by rw [LYC, List.getElem?_append_left (by rw [lyC1_len]; decide)]; rfl
theorem lyC_33 {x nw dr : Nat} : (LYC x nw dr)[33]? = some (Sum.inr (60, 0, 0)) := by rw [LYC, List.getElem?_append_left (by rw [lyC1_len]; decide)]; rfl
theorem lyC_34 {x nw dr : Nat} : (LYC x nw dr)[34]? = some (Sum.inr (60, 0, 0)) := by rw [LYC, List.getElem?_append_left (by rw [lyC1_len]; decide)]; rfl
theorem lyC_35 {x nw dr : Nat} : (LYC x nw dr)[35]? = some (Sum.inl (0, 0 :: 41 :: 45 :: 0 :: 49 :: 53 :: 57 :: 1 :: 1 :: 1 :: [])) := by rw [LYC, List.getElem?_append_left (by rw [lyC1_len]; decide)]; rfl
theorem lyC_36 {x nw dr : Nat} : (LYC x nw dr)[36]? = some (Sum.inl (0, 0 :: 42 :: 46 :: 0 :: 50 :: 54 :: 58 :: 1 :: 1 :: 1 :: [])) := by rw [LYC, List.getElem?_append_left (by rw [lyC1_len]; decide)]; rfl
theorem lyC_37 {x nw dr : Nat} : (LYC x nw dr)[37]? = some (Sum.inl (0, 0 :: 43 :: 47 :: 0 :: 51 :: 55 :: 59 :: 1 :: 1 :: 1 :: [])) := by rw [LYC, List.getElem?_append_left (by rw [lyC1_len]; decide)]; rfl
theorem lyC_38 {x nw dr : Nat} : (LYC x nw dr)[38]? = some (Sum.inl (0, 0 :: 44 :: 48 :: 0 :: 52 :: 56 :: 60 :: 1 :: 1 :: 1 :: [])) := by rw [LYC, List.getElem?_append_left (by rw [lyC1_len]; decide)]; rfl
theorem lyC_39 {x nw dr : Nat} : (LYC x nw dr)[39]? = some (Sum.inr (4, 0, 0)) := by rw [LYC, List.getElem?_append_left (by rw [lyC1_len]; decide)]; rfl
theorem lyC_40 {x nw dr : Nat} : (LYC x nw dr)[40]? = some (Sum.inr (4, 0, 0)) := by rw [LYC, List.getElem?_append_left (by rw [lyC1_len]; decide)]; rfl
theorem lyC_41 {x nw dr : Nat} : (LYC x nw dr)[41]? = some (Sum.inr (4, 0, 0)) := by rw [LYC, List.getElem?_append_left (by rw [lyC1_len]; decide)]; rfl
theorem lyC_42 {x nw dr : Nat} : (LYC x nw dr)[42]? = some (Sum.inr (4, 0, 0)) := by rw [LYC, List.getElem?_append_left (by rw [lyC1_len]; decide)]; rfl
theorem lyC_43 {x nw dr : Nat} : (LYC x nw dr)[43]? = some (Sum.inr (4, 0, 0)) := by rw [LYC, List.getElem?_append_left (by rw [lyC1_len]; decide)]; rfl
theorem lyC_44 {x nw dr : Nat} : (LYC x nw dr)[44]? = some (Sum.inr (4, 0, 0)) := by rw [LYC, List.getElem?_append_left (by rw [lyC1_len]; decide)]; rfl
theorem lyC_45 {x nw dr : Nat} : (LYC x nw dr)[45]? = some (Sum.inr (4, 0, 0)) := by rw [LYC, List.getElem?_append_left (by rw [lyC1_len]; decide)]; rfl
theorem lyC_46 {x nw dr : Nat} : (LYC x nw dr)[46]? = some (Sum.inr (4, 0, 0)) := by rw [LYC, List.getElem?_append_left (by rw [lyC1_len]; decide)]; rfl
theorem lyC_47 {x nw dr : Nat} : (LYC x nw dr)[47]? = some (Sum.inr (8, 0, 0)) := by rw [LYC, List.getElem?_append_left (by rw [lyC1_len]; decide)]; rfl
theorem lyC_48 {x nw dr : Nat} : (LYC x nw dr)[48]? = some (Sum.inr (8, 0, 0)) := by rw [LYC, List.getElem?_append_left (by rw [lyC1_len]; decide)]; rfl
theorem lyC_49 {x nw dr : Nat} : (LYC x nw dr)[49]? = some (Sum.inr (8, 0, 0)) := by rw [LYC, List.getElem?_append_left (by rw [lyC1_len]; decide)]; rfl
theorem lyC_50 {x nw dr : Nat} : (LYC x nw dr)[50]? = some (Sum.inr (8, 0, 0)) := by rw [LYC, List.getElem?_append_left (by rw [lyC1_len]; decide)]; rfl
theorem lyC_51 {x nw dr : Nat} : (LYC x nw dr)[51]? = some (Sum.inr (8, 0, 0)) := by rw [LYC, List.getElem?_append_left (by rw [lyC1_len]; decide)]; rfl
theorem lyC_52 {x nw dr : Nat} : (LYC x nw dr)[52]? = some (Sum.inr (8, 0, 0)) := by rw [LYC, List.getElem?_append_left (by rw [lyC1_len]; decide)]; rfl
theorem lyC_53 {x nw dr : Nat} : (LYC x nw dr)[53]? = some (Sum.inr (8, 0, 0)) := by rw [LYC, List.getElem?_append_left (by rw [lyC1_len]; decide)]; rfl
theorem lyC_54 {x nw dr : Nat} : (LYC x nw dr)[54]? = some (Sum.inr (8, 0, 0)) := by rw [LYC, List.getElem?_append_left (by rw [lyC1_len]; decide)]; rfl
theorem lyC_55 {x nw dr : Nat} : (LYC x nw dr)[55]? = some (Sum.inr (8, 0, 0)) := by rw [LYC, List.getElem?_append_left (by rw [lyC1_len]; decide)]; rfl
theorem lyC_56 {x nw dr : Nat} : (LYC x nw dr)[56]? = some (Sum.inr (8, 0, 0)) := by rw [LYC, List.getElem?_append_left (by rw [lyC1_len]; decide)]; rfl
theorem lyC_57 {x nw dr : Nat} : (LYC x nw dr)[57]? = some (Sum.inr (8, 0, 0)) := by rw [LYC, List.getElem?_append_left (by rw [lyC1_len]; decide)]; rfl
theorem lyC_58 {x nw dr : Nat} : (LYC x nw dr)[58]? = some (Sum.inr (8, 0, 0)) := by rw [LYC, List.getElem?_append_left (by rw [lyC1_len]; decide)]; rfl
theorem lyC_59 {x nw dr : Nat} : (LYC x nw dr)[59]? = some (Sum.inr (10, 0, 0)) := by rw [LYC, List.getElem?_append_left (by rw [lyC1_len]; decide)]; rfl
theorem lyC_60 {x nw dr : Nat} : (LYC x nw dr)[60]? = some (Sum.inr (10, 0, 0)) := by rw [LYC, List.getElem?_append_left (by rw [lyC1_len]; decide)]; rfl
theorem lyC_61 {x nw dr : Nat} : (LYC x nw dr)[61]? = some (Sum.inr (10, 0, 0)) := by rw [LYC, List.getElem?_append_left (by rw [lyC1_len]; decide)]; rfl
theorem lyC_62 {x nw dr : Nat} : (LYC x nw dr)[62]? = some (Sum.inr (10, 0, 0)) := by rw [LYC, List.getElem?_append_left (by rw [lyC1_len]; decide)]; rfl
theorem lyC_63 {x nw dr : Nat} : (LYC x nw dr)[63]? = some (Sum.inr (10, 0, 0)) := by rw [LYC, List.getElem?_append_left (by rw [lyC1_len]; decide)]; rfl
theorem lyC_64 {x nw dr : Nat} : (LYC x nw dr)[64]? = some (Sum.inr (10, 0, 0)) := by rw [LYC, List.getElem?_append_left (by rw [lyC1_len]; decide)]; rfl
theorem lyC_65 {x nw dr : Nat} : (LYC x nw dr)[65]? = some (Sum.inr (10, 0, 0)) := by rw [LYC, List.getElem?_append_left (by rw [lyC1_len]; decide)]; rfl
theorem lyC_66 {x nw dr : Nat} : (LYC x nw dr)[66]? = some (Sum.inr (10, 0, 0)) := by rw [LYC, List.getElem?_append_left (by rw [lyC1_len]; decide)]; rfl
theorem lyC_67 {x nw dr : Nat} : (LYC x nw dr)[67]? = some (Sum.inr (6, 0, 0)) := by rw [LYC, List.getElem?_append_left (by rw [lyC1_len]; decide)]; rfl
theorem lyC_68 {x nw dr : Nat} : (LYC x nw dr)[68]? = some (Sum.inr (6, 0, 0)) := by rw [LYC, List.getElem?_append_left (by rw [lyC1_len]; decide)]; rfl
theorem lyC_69 {x nw dr : Nat} : (LYC x nw dr)[69]? = some (Sum.inr (6, 0, 0)) := by rw [LYC, List.getElem?_append_left (by rw [lyC1_len]; decide)]; rfl
theorem lyC_70 {x nw dr : Nat} : (LYC x nw dr)[70]? = some (Sum.inr (6, 0, 0)) := by rw [LYC, List.getElem?_append_left (by rw [lyC1_len]; decide)]; rfl
theorem lyC_71 {x nw dr : Nat} : (LYC x nw dr)[71]? = some (Sum.inr (6, 0, 0)) := by rw [LYC, List.getElem?_append_left (by rw [lyC1_len]; decide)]; rfl
theorem lyC_72 {x nw dr : Nat} : (LYC x nw dr)[72]? = some (Sum.inr (6, 0, 0)) := by rw [LYC, List.getElem?_append_left (by rw [lyC1_len]; decide)]; rfl
theorem lyC_73 {x nw dr : Nat} : (LYC x nw dr)[73]? = some (Sum.inr (6, 0, 0)) := by rw [LYC, List.getElem?_append_left (by rw [lyC1_len]; decide)]; rfl
theorem lyC_74 {x nw dr : Nat} : (LYC x nw dr)[74]? = some (Sum.inr (6, 0, 0)) := by rw [LYC, List.getElem?_append_left (by rw [lyC1_len]; decide)]; rfl
theorem lyC_75 {x nw dr : Nat} : (LYC x nw dr)[75]? = some (Sum.inr (6, 0, 0)) := by rw [LYC, List.getElem?_append_left (by rw [lyC1_len]; decide)]; rfl
theorem lyC_76 {x nw dr : Nat} : (LYC x nw dr)[76]? = some (Sum.inr (6, 0, 0)) := by rw [LYC, List.getElem?_append_left (by rw [lyC1_len]; decide)]; rfl
theorem lyC_77 {x nw dr : Nat} : (LYC x nw dr)[77]? = some (Sum.inr (6, 0, 0)) := by rw [LYC, List.getElem?_append_left (by rw [lyC1_len]; decide)]; rfl
theorem lyC_78 {x nw dr : Nat} : (LYC x nw dr)[78]? = some (Sum.inr (6, 0, 0)) := by rw [LYC, List.getElem?_append_left (by rw [lyC1_len]; decide)]; rfl
theorem lyC_79 {x nw dr : Nat} : (LYC x nw dr)[79]? = some (Sum.inr (6, 0, 0)) := by rw [LYC, List.getElem?_append_left (by rw [lyC1_len]; decide)]; rfl
theorem lyC_80 {x nw dr : Nat} : (LYC x nw dr)[80]? = some (Sum.inr (6, 0, 0)) := by rw [LYC, List.getElem?_append_left (by rw [lyC1_len]; decide)]; rfl
theorem lyC_81 {x nw dr : Nat} : (LYC x nw dr)[81]? = some (Sum.inr (6, 0, 0)) := by rw [LYC, List.getElem?_append_left (by rw [lyC1_len]; decide)]; rfl
theorem lyC_82 {x nw dr : Nat} : (LYC x nw dr)[82]? = some (Sum.inr (6, 0, 0)) := by rw [LYC, List.getElem?_append_left (by rw [lyC1_len]; decide)]; rfl
theorem lyC_83 {x nw dr : Nat} : (LYC x nw dr)[83]? = some (Sum.inr (2, 5, 25)) := by rw [LYC, List.getElem?_append_left (by rw [lyC1_len]; decide)]; rfl
theorem lyC_84 {x nw dr : Nat} : (LYC x nw dr)[84]? = some (Sum.inr (2, 2, 0)) := by rw [LYC, List.getElem?_append_left (by rw [lyC1_len]; decide)]; rfl
theorem lyC_85 {x nw dr : Nat} : (LYC x nw dr)[85]? = some (Sum.inl (5, 88 :: 89 :: [])) := by rw [LYC, List.getElem?_append_left (by rw [lyC1_len]; decide)]; rfl
theorem lyC_86 {x nw dr : Nat} : (LYC x nw dr)[86]? = some (Sum.inr (46, 4, 103)) := by rw [LYC, List.getElem?_append_left (by rw [lyC1_len]; decide)]; rfl
theorem lyC_87 {x nw dr : Nat} : (LYC x nw dr)[87]? = some (Sum.inr (46, 0, 0)) := by rw [LYC, List.getElem?_append_left (by rw [lyC1_len]; decide)]; rfl
theorem lyC_88 {x nw dr : Nat} : (LYC x nw dr)[88]? = some (Sum.inl (1, 91 :: 0 :: 93 :: 94 :: 95 :: 0 :: [])) := by rw [LYC, List.getElem?_append_left (by rw [lyC1_len]; decide)]; rfl
theorem lyC_89 {x nw dr : Nat} : (LYC x nw dr)[89]? = some (Sum.inl (9, 92 :: 0 :: [])) := by rw [LYC, List.getElem?_append_left (by rw [lyC1_len]; decide)]; rfl
theorem lyC_90 {x nw dr : Nat} : (LYC x nw dr)[90]? = some (Sum.inr (8, 0, 0)) := by rw [LYC, List.getElem?_append_left (by rw [lyC1_len]; decide)]; rfl
theorem lyC_91 {x nw dr : Nat} : (LYC x nw dr)[91]? = some (Sum.inr (28, 0, 0)) := by rw [LYC, List.getElem?_append_left (by rw [lyC1_len]; decide)]; rfl
theorem lyC_92 {x nw dr : Nat} : (LYC x nw dr)[92]? = some (Sum.inr (28, 0, 0)) := by rw [LYC, List.getElem?_append_left (by rw [lyC1_len]; decide)]; rfl
theorem lyC_93 {x nw dr : Nat} : (LYC x nw dr)[93]? = some (Sum.inr (8, 0, 0)) := by rw [LYC, List.getElem?_append_left (by rw [lyC1_len]; decide)]; rfl
theorem lyC_94 {x nw dr : Nat} : (LYC x nw dr)[94]? = some (Sum.inr (10, 0, 0)) := by rw [LYC, List.getElem?_append_left (by rw [lyC1_len]; decide)]; rfl
theorem lyC_95 {x nw dr : Nat} : (LYC x nw dr)[95]? = some (Sum.inl (3, 0 :: 98 :: 0 :: 0 :: 0 :: 99 :: 0 :: 100 :: 101 :: 102 :: 103 :: 104 :: 0 :: [])) := by rw [LYC, List.getElem?_append_left (by rw [lyC1_len]; decide)]; rfl
theorem lyC_96 {x nw dr : Nat} : (LYC x nw dr)[96]? = some (Sum.inr (3, 0, 0)) := by rw [LYC, List.getElem?_append_left (by rw [lyC1_len]; decide)]; rfl
theorem lyC_97 {x nw dr : Nat} : (LYC x nw dr)[97]? = some (Sum.inr (60, 4, 149)) := by rw [LYC, List.getElem?_append_left (by rw [lyC1_len]; decide)]; rfl
theorem lyC_98 {x nw dr : Nat} : (LYC x nw dr)[98]? = some (Sum.inr (10, 0, 0)) := by rw [LYC, List.getElem?_append_left (by rw [lyC1_len]; decide)]; rfl
theorem lyC_99 {x nw dr : Nat} : (LYC x nw dr)[99]? = some (Sum.inr (3, 4, 209)) := by rw [LYC, List.getElem?_append_left (by rw [lyC1_len]; decide)]; rfl
theorem lyC_100 {x nw dr : Nat} : (LYC x nw dr)[100]? = some (Sum.inr (3, 4, 212)) := by rw [LYC, List.getElem?_append_left (by rw [lyC1_len]; decide)]; rfl
theorem lyC_101 {x nw dr : Nat} : (LYC x nw dr)[101]? = some (Sum.inr (3, 0, 0)) := by rw [LYC, List.getElem?_append_left (by rw [lyC1_len]; decide)]; rfl
theorem lyC_102 {x nw dr : Nat} : (LYC x nw dr)[102]? = some (Sum.inr (3, 0, 0)) := by rw [LYC, List.getElem?_append_left (by rw [lyC1_len]; decide)]; rfl
theorem lyC2_a : ∀ t, t < 46 → LYC2[t]? = some (Sum.inr (70, 0, 0)) := by decide +kernel
theorem lyC2_b : ∀ t, t < 66 → LYC2[46 + t]? = some (Sum.inr (10, 0, 0)) := by decide +kernel
theorem lyC_r {x nw dr : Nat} : ∀ t, t < 46 → (LYC x nw dr)[103 + t]? = some (Sum.inr (70, 0, 0)) := fun t h => by rw [LYC, List.getElem?_append_right (by rw [lyC1_len]; omega), lyC1_len, show 103 + t - 103 = t by omega]; exact lyC2_a t h
theorem lyC_c {x nw dr : Nat} : ∀ t, t < 60 → (LYC x nw dr)[149 + t]? = some (Sum.inr (10, 0, 0)) := fun t h => by rw [LYC, List.getElem?_append_right (by rw [lyC1_len]; omega), lyC1_len, show 149 + t - 103 = 46 + (0 + t) by omega]; exact lyC2_b (0 + t) (by omega)
theorem lyC_b {x nw dr : Nat} : ∀ t, t < 3 → (LYC x nw dr)[209 + t]? = some (Sum.inr (10, 0, 0)) := fun t h => by rw [LYC, List.getElem?_append_right (by rw [lyC1_len]; omega), lyC1_len, show 209 + t - 103 = 46 + (60 + t) by omega]; exact lyC2_b (60 + t) (by omega)
theorem lyC_s {x nw dr : Nat} : ∀ t, t < 3 → (LYC x nw dr)[212 + t]? = some (Sum.inr (10, 0, 0)) := fun t h => by rw [LYC, List.getElem?_append_right (by rw [lyC1_len]; omega), lyC1_len, show 212 + t - 103 = 46 + (63 + t) by omega]; exact lyC2_b (63 + t) (by omega)
def shOk (e : Sh) : Bool := match e with
  | .inl (_, ks) => Nat.ble ks.length 64
  | .inr _ => true
theorem LYok_of {LY : List Sh} (h : LY.all shOk = true) : LYok LY := by
  intro j ci ks hj
  exact Nat.le_of_ble_eq_true (List.all_eq_true.mp h _ (List.mem_of_getElem? hj))
theorem LYM_ok : LYok LYM := LYok_of (by decide +kernel)
theorem LYC2_ok : LYC2.all shOk = true := by decide +kernel
set_option maxRecDepth 100000 in
theorem LYC1_ok {x nw dr : Nat} : (LYC1 x nw dr).all shOk = true := rfl
theorem LYC_ok {x nw dr : Nat} : LYok (LYC x nw dr) := LYok_of (by rw [LYC, List.all_append, LYC1_ok, LYC2_ok]; rfl)
/-! places of the arrays and keys of the fields, by name -/
abbrev mA_tape : Nat := 1
abbrev mA_s : Nat := 2
abbrev mA_h : Nat := 3
abbrev mA_names : Nat := 4
abbrev mA_reserved : Nat := 5
abbrev mA_waves : Nat := 6
abbrev mA_board : Nat := 7
abbrev mA_stepRow : Nat := 8
abbrev mA_row : Nat := 9
abbrev mA_rule : Nat := 10
abbrev mA_strengths : Nat := 11
abbrev mA_given : Nat := 12
abbrev mA_track : Nat := 13
abbrev mA_picked : Nat := 14
abbrev mA_firstPicked : Nat := 15
abbrev mA_firstBy : Nat := 16
abbrev mA_numbers : Nat := 17
abbrev mA_points : Nat := 18
abbrev mA_pointSet : Nat := 19
abbrev mA_rest : Nat := 20
abbrev mA_fixed : Nat := 21
abbrev mA_kept : Nat := 22
abbrev mA_isKept : Nat := 23
abbrev mF_thrown : Nat := 0
abbrev mF_length : Nat := 2
abbrev mF_size : Nat := 3
abbrev mF_p : Nat := 4
abbrev mF_limit : Nat := 5
abbrev mF_token : Nat := 10
abbrev mF_at : Nat := 11
abbrev mF_span : Nat := 12
abbrev mF_number : Nat := 13
abbrev mF_fault : Nat := 14
abbrev mF_faultAt : Nat := 15
abbrev mF_word : Nat := 16
abbrev mF_got : Nat := 17
abbrev mF_lines : Nat := 18
abbrev mF_hasLattice : Nat := 19
abbrev mF_m : Nat := 20
abbrev mF_wave : Nat := 21
abbrev mF_wide : Nat := 25
abbrev mF_high : Nat := 26
abbrev mF_rank : Nat := 27
abbrev mF_ruleMany : Nat := 31
abbrev mF_strengthMany : Nat := 32
abbrev mF_rootSet : Nat := 33
abbrev mF_hasKept : Nat := 34
abbrev mF_hasTrack : Nat := 37
abbrev mF_madeMany : Nat := 41
abbrev mF_madeSets : Nat := 42
abbrev mF_liarMany : Nat := 43
abbrev mF_liarSets : Nat := 44
abbrev mF_firstLiars : Nat := 45
abbrev mF_numberMany : Nat := 47
abbrev mF_crossX : Nat := 48
abbrev mF_crossY : Nat := 49
abbrev mF_crossBelow : Nat := 50
abbrev mF_pointMany : Nat := 55
abbrev mF_fixMany : Nat := 56
