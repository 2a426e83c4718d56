/-! THE TWO WORLDS: layouts, by program (wip/whole/gen/lay.py) -/
def LYM : List Sh := .inl (11, 0 :: 3 :: 0 :: 0 :: 0 :: 0 :: 4 :: 5 :: 6 :: 7 :: 0 :: 0 :: 0 :: 0 :: 0 :: 0 :: 1 :: 0 :: 0 :: 0 :: 0 :: 0 :: 8 :: 9 :: 10 :: 0 :: 0 :: 0 :: 11 :: 12 :: 13 :: 0 :: 0 :: 1 :: 0 :: 14 :: 15 :: 0 :: 16 :: 17 :: 18 :: 0 :: 0 :: 0 :: 0 :: 0 :: 19 :: 0 :: 1 :: 1 :: 1 :: 20 :: 21 :: 22 :: 23 :: 0 :: 0 :: 24 :: 25 :: []) :: .inr (940, 1, 0) :: .inr (82, 0, 0) :: .inr (82, 0, 0) :: .inr (20, 3, 0) :: .inr (8, 3, 0) :: .inr (60, 0, 0) :: .inr (2800, 0, 0) :: .inr (110, 0, 0) :: .inr (100, 0, 0) :: .inr (101, 0, 0) :: .inr (60, 0, 0) :: .inr (470, 0, 0) :: .inr (3, 0, 0) :: .inr (3, 0, 0) :: .inr (3, 0, 0) :: .inr (3, 0, 0) :: .inr (10, 0, 0) :: .inr (28, 0, 0) :: .inr (28, 0, 0) :: .inr (7424, 0, 0) :: .inr (8, 0, 0) :: .inr (164, 0, 0) :: .inr (2, 2, 0) :: []
def LYC1 (x y z : Bool) : List Sh := .inl (10, 3 :: 5 :: (cond y 80 79 + 2) :: (cond z 79 80 + 2) :: 85 :: 86 :: 87 :: 9 :: 97 :: 90 :: 96 :: 15 :: 17 :: 19 :: 0 :: 21 :: 0 :: 23 :: []) :: .inl (8, 4 :: 0 :: []) :: .inr (940, 0, 0) :: .inl (4, 0 :: 0 :: (cond x 2 6 + 2) :: 0 :: 0 :: 0 :: 0 :: 1 :: 0 :: 0 :: 0 :: 6 :: 7 :: []) :: .inr (6, 3, 0) :: .inr (4, 3, 0) :: .inr (0, 0, 0) :: .inl (6, 10 :: 11 :: 13 :: 1 :: []) :: .inr (46, 0, 0) :: .inl (9, 12 :: 0 :: []) :: .inr (46, 0, 0) :: .inl (9, 14 :: 0 :: []) :: .inr (46, 0, 0) :: .inl (9, 16 :: 0 :: []) :: .inr (3, 0, 0) :: .inl (9, 18 :: 0 :: []) :: .inr (3, 0, 0) :: .inl (9, 20 :: 0 :: []) :: .inr (3, 0, 0) :: .inl (9, 22 :: 0 :: []) :: .inr (2, 0, 0) :: .inl (9, 24 :: 0 :: []) :: .inr (10, 0, 0) :: .inl (2, 0 :: 0 :: 0 :: 29 :: []) :: .inl (2, 0 :: 0 :: 0 :: 30 :: []) :: .inl (2, 0 :: 0 :: 0 :: 31 :: []) :: .inl (2, 0 :: 0 :: 0 :: 32 :: []) :: .inr (60, 0, 0) :: .inr (60, 0, 0) :: .inr (60, 0, 0) :: .inr (60, 0, 0) :: .inl (0, 0 :: 37 :: 41 :: 0 :: 45 :: 49 :: 53 :: 1 :: 1 :: 1 :: []) :: .inl (0, 0 :: 38 :: 42 :: 0 :: 46 :: 50 :: 54 :: 1 :: 1 :: 1 :: []) :: .inl (0, 0 :: 39 :: 43 :: 0 :: 47 :: 51 :: 55 :: 1 :: 1 :: 1 :: []) :: .inl (0, 0 :: 40 :: 44 :: 0 :: 48 :: 52 :: 56 :: 1 :: 1 :: 1 :: []) :: .inr (4, 0, 0) :: .inr (4, 0, 0) :: .inr (4, 0, 0) :: .inr (4, 0, 0) :: .inr (4, 0, 0) :: .inr (4, 0, 0) :: .inr (4, 0, 0) :: .inr (4, 0, 0) :: .inr (8, 0, 0) :: .inr (8, 0, 0) :: .inr (8, 0, 0) :: .inr (8, 0, 0) :: .inr (8, 0, 0) :: .inr (8, 0, 0) :: .inr (8, 0, 0) :: .inr (8, 0, 0) :: .inr (8, 0, 0) :: .inr (8, 0, 0) :: .inr (8, 0, 0) :: .inr (8, 0, 0) :: .inr (10, 0, 0) :: .inr (10, 0, 0) :: .inr (10, 0, 0) :: .inr (10, 0, 0) :: .inr (10, 0, 0) :: .inr (10, 0, 0) :: .inr (10, 0, 0) :: .inr (10, 0, 0) :: .inr (6, 0, 0) :: .inr (6, 0, 0) :: .inr (6, 0, 0) :: .inr (6, 0, 0) :: .inr (6, 0, 0) :: .inr (6, 0, 0) :: .inr (6, 0, 0) :: .inr (6, 0, 0) :: .inr (6, 0, 0) :: .inr (6, 0, 0) :: .inr (6, 0, 0) :: .inr (6, 0, 0) :: .inr (6, 0, 0) :: .inr (6, 0, 0) :: .inr (6, 0, 0) :: .inr (6, 0, 0) :: .inl (7, 25 :: 33 :: 0 :: 0 :: 57 :: 61 :: 0 :: 65 :: 69 :: 73 :: 77 :: []) :: .inl (7, 26 :: 34 :: 0 :: 0 :: 58 :: 62 :: 0 :: 66 :: 70 :: 74 :: 78 :: []) :: .inl (7, 27 :: 35 :: 0 :: 0 :: 59 :: 63 :: 0 :: 67 :: 71 :: 75 :: 79 :: []) :: .inl (7, 28 :: 36 :: 0 :: 0 :: 60 :: 64 :: 0 :: 68 :: 72 :: 76 :: 80 :: []) :: .inr (2, 5, 81) :: .inr (2, 2, 0) :: .inl (5, 88 :: 89 :: []) :: .inr (46, 4, 103) :: .inr (46, 0, 0) :: .inl (1, 91 :: 0 :: 93 :: 94 :: 95 :: 0 :: []) :: .inl (9, 92 :: 0 :: []) :: .inr (8, 0, 0) :: .inr (28, 0, 0) :: .inr (28, 0, 0) :: .inr (8, 0, 0) :: .inr (10, 0, 0) :: .inl (3, 0 :: 98 :: 0 :: 0 :: 0 :: 99 :: 0 :: 100 :: 101 :: 102 :: 103 :: 104 :: 0 :: []) :: .inr (3, 0, 0) :: .inr (60, 4, 149) :: .inr (10, 0, 0) :: .inr (3, 4, 209) :: .inr (3, 4, 212) :: .inr (3, 0, 0) :: .inr (3, 0, 0) :: []
def LYC2 : List Sh := List.replicate 46 (.inr (70, 0, 0)) ++ List.replicate 66 (.inr (10, 0, 0))
def LYC (x y z : Bool) : List Sh := LYC1 x y z ++ LYC2
theorem lyM_0 : LYM[0]? = some (Sum.inl (11, 0 :: 3 :: 0 :: 0 :: 0 :: 0 :: 4 :: 5 :: 6 :: 7 :: 0 :: 0 :: 0 :: 0 :: 0 :: 0 :: 1 :: 0 :: 0 :: 0 :: 0 :: 0 :: 8 :: 9 :: 10 :: 0 :: 0 :: 0 :: 11 :: 12 :: 13 :: 0 :: 0 :: 1 :: 0 :: 14 :: 15 :: 0 :: 16 :: 17 :: 18 :: 0 :: 0 :: 0 :: 0 :: 0 :: 19 :: 0 :: 1 :: 1 :: 1 :: 20 :: 21 :: 22 :: 23 :: 0 :: 0 :: 24 :: 25 :: [])) := rfl
theorem lyM_1 : LYM[1]? = some (Sum.inr (940, 1, 0)) := rfl
theorem lyM_2 : LYM[2]? = some (Sum.inr (82, 0, 0)) := rfl
theorem lyM_3 : LYM[3]? = some (Sum.inr (82, 0, 0)) := rfl
theorem lyM_4 : LYM[4]? = some (Sum.inr (20, 3, 0)) := rfl
theorem lyM_5 : LYM[5]? = some (Sum.inr (8, 3, 0)) := rfl
theorem lyM_6 : LYM[6]? = some (Sum.inr (60, 0, 0)) := rfl
theorem lyM_7 : LYM[7]? = some (Sum.inr (2800, 0, 0)) := rfl
theorem lyM_8 : LYM[8]? = some (Sum.inr (110, 0, 0)) := rfl
theorem lyM_9 : LYM[9]? = some (Sum.inr (100, 0, 0)) := rfl
theorem lyM_10 : LYM[10]? = some (Sum.inr (101, 0, 0)) := rfl
theorem lyM_11 : LYM[11]? = some (Sum.inr (60, 0, 0)) := rfl
theorem lyM_12 : LYM[12]? = some (Sum.inr (470, 0, 0)) := rfl
theorem lyM_13 : LYM[13]? = some (Sum.inr (3, 0, 0)) := rfl
theorem lyM_14 : LYM[14]? = some (Sum.inr (3, 0, 0)) := rfl
theorem lyM_15 : LYM[15]? = some (Sum.inr (3, 0, 0)) := rfl
theorem lyM_16 : LYM[16]? = some (Sum.inr (3, 0, 0)) := rfl
theorem lyM_17 : LYM[17]? = some (Sum.inr (10, 0, 0)) := rfl
theorem lyM_18 : LYM[18]? = some (Sum.inr (28, 0, 0)) := rfl
theorem lyM_19 : LYM[19]? = some (Sum.inr (28, 0, 0)) := rfl
theorem lyM_20 : LYM[20]? = some (Sum.inr (7424, 0, 0)) := rfl
theorem lyM_21 : LYM[21]? = some (Sum.inr (8, 0, 0)) := rfl
theorem lyM_22 : LYM[22]? = some (Sum.inr (164, 0, 0)) := rfl
theorem lyM_23 : LYM[23]? = some (Sum.inr (2, 2, 0)) := rfl
theorem lyC1_len {x y z : Bool} : (LYC1 x y z).length = 103 := rfl
theorem lyC_0 {x y z : Bool} : (LYC x y z)[0]? = some (Sum.inl (10, 3 :: 5 :: (cond y 80 79 + 2) :: (cond z 79 80 + 2) :: 85 :: 86 :: 87 :: 9 :: 97 :: 90 :: 96 :: 15 :: 17 :: 19 :: 0 :: 21 :: 0 :: 23 :: [])) := by rw [LYC, List.getElem?_append_left (by rw [lyC1_len]; decide)]; rfl
theorem lyC_1 {x y z : Bool} : (LYC x y z)[1]? = some (Sum.inl (8, 4 :: 0 :: [])) := by rw [LYC, List.getElem?_append_left (by rw [lyC1_len]; decide)]; rfl
theorem lyC_2 {x y z : Bool} : (LYC x y z)[2]? = some (Sum.inr (940, 0, 0)) := by rw [LYC, List.getElem?_append_left (by rw [lyC1_len]; decide)]; rfl
theorem lyC_3 {x y z : Bool} : (LYC x y z)[3]? = some (Sum.inl (4, 0 :: 0 :: (cond x 2 6 + 2) :: 0 :: 0 :: 0 :: 0 :: 1 :: 0 :: 0 :: 0 :: 6 :: 7 :: [])) := by rw [LYC, List.getElem?_append_left (by rw [lyC1_len]; decide)]; rfl
theorem lyC_4 {x y z : Bool} : (LYC x y z)[4]? = some (Sum.inr (6, 3, 0)) := by rw [LYC, List.getElem?_append_left (by rw [lyC1_len]; decide)]; rfl
theorem lyC_5 {x y z : Bool} : (LYC x y z)[5]? = some (Sum.inr (4, 3, 0)) := by rw [LYC, List.getElem?_append_left (by rw [lyC1_len]; decide)]; rfl
theorem lyC_6 {x y z : Bool} : (LYC x y z)[6]? = some (Sum.inr (0, 0, 0)) := by rw [LYC, List.getElem?_append_left (by rw [lyC1_len]; decide)]; rfl
theorem lyC_7 {x y z : Bool} : (LYC x y z)[7]? = some (Sum.inl (6, 10 :: 11 :: 13 :: 1 :: [])) := by rw [LYC, List.getElem?_append_left (by rw [lyC1_len]; decide)]; rfl
theorem lyC_8 {x y z : Bool} : (LYC x y z)[8]? = some (Sum.inr (46, 0, 0)) := by rw [LYC, List.getElem?_append_left (by rw [lyC1_len]; decide)]; rfl
theorem lyC_9 {x y z : Bool} : (LYC x y z)[9]? = some (Sum.inl (9, 12 :: 0 :: [])) := by rw [LYC, List.getElem?_append_left (by rw [lyC1_len]; decide)]; rfl
theorem lyC_10 {x y z : Bool} : (LYC x y z)[10]? = some (Sum.inr (46, 0, 0)) := by rw [LYC, List.getElem?_append_left (by rw [lyC1_len]; decide)]; rfl
theorem lyC_11 {x y z : Bool} : (LYC x y z)[11]? = some (Sum.inl (9, 14 :: 0 :: [])) := by rw [LYC, List.getElem?_append_left (by rw [lyC1_len]; decide)]; rfl
theorem lyC_12 {x y z : Bool} : (LYC x y z)[12]? = some (Sum.inr (46, 0, 0)) := by rw [LYC, List.getElem?_append_left (by rw [lyC1_len]; decide)]; rfl
theorem lyC_13 {x y z : Bool} : (LYC x y z)[13]? = some (Sum.inl (9, 16 :: 0 :: [])) := by rw [LYC, List.getElem?_append_left (by rw [lyC1_len]; decide)]; rfl
theorem lyC_14 {x y z : Bool} : (LYC x y z)[14]? = some (Sum.inr (3, 0, 0)) := by rw [LYC, List.getElem?_append_left (by rw [lyC1_len]; decide)]; rfl
theorem lyC_15 {x y z : Bool} : (LYC x y z)[15]? = some (Sum.inl (9, 18 :: 0 :: [])) := by rw [LYC, List.getElem?_append_left (by rw [lyC1_len]; decide)]; rfl
theorem lyC_16 {x y z : Bool} : (LYC x y z)[16]? = some (Sum.inr (3, 0, 0)) := by rw [LYC, List.getElem?_append_left (by rw [lyC1_len]; decide)]; rfl
theorem lyC_17 {x y z : Bool} : (LYC x y z)[17]? = some (Sum.inl (9, 20 :: 0 :: [])) := by rw [LYC, List.getElem?_append_left (by rw [lyC1_len]; decide)]; rfl
theorem lyC_18 {x y z : Bool} : (LYC x y z)[18]? = some (Sum.inr (3, 0, 0)) := by rw [LYC, List.getElem?_append_left (by rw [lyC1_len]; decide)]; rfl
theorem lyC_19 {x y z : Bool} : (LYC x y z)[19]? = some (Sum.inl (9, 22 :: 0 :: [])) := by rw [LYC, List.getElem?_append_left (by rw [lyC1_len]; decide)]; rfl
theorem lyC_20 {x y z : Bool} : (LYC x y z)[20]? = some (Sum.inr (2, 0, 0)) := by rw [LYC, List.getElem?_append_left (by rw [lyC1_len]; decide)]; rfl
theorem lyC_21 {x y z : Bool} : (LYC x y z)[21]? = some (Sum.inl (9, 24 :: 0 :: [])) := by rw [LYC, List.getElem?_append_left (by rw [lyC1_len]; decide)]; rfl
theorem lyC_22 {x y z : Bool} : (LYC x y z)[22]? = some (Sum.inr (10, 0, 0)) := by rw [LYC, List.getElem?_append_left (by rw [lyC1_len]; decide)]; rfl
theorem lyC_23 {x y z : Bool} : (LYC x y z)[23]? = some (Sum.inl (2, 0 :: 0 :: 0 :: 29 :: [])) := by rw [LYC, List.getElem?_append_left (by rw [lyC1_len]; decide)]; rfl
theorem lyC_24 {x y z : Bool} : (LYC x y z)[24]? = some (Sum.inl (2, 0 :: 0 :: 0 :: 30 :: [])) := by rw [LYC, List.getElem?_append_left (by rw [lyC1_len]; decide)]; rfl
theorem lyC_25 {x y z : Bool} : (LYC x y z)[25]? = some (Sum.inl (2, 0 :: 0 :: 0 :: 31 :: [])) := by rw [LYC, List.getElem?_append_left (by rw [lyC1_len]; decide)]; rfl
theorem lyC_26 {x y z : Bool} : (LYC x y z)[26]? = some (Sum.inl (2, 0 :: 0 :: 0 :: 32 :: [])) := by rw [LYC, List.getElem?_append_left (by rw [lyC1_len]; decide)]; rfl
theorem lyC_27 {x y z : Bool} : (LYC x y z)[27]? = some (Sum.inr (60, 0, 0)) := by rw [LYC, List.getElem?_append_left (by rw [lyC1_len]; decide)]; rfl
theorem lyC_28 {x y z : Bool} : (LYC x y z)[28]? = some (Sum.inr (60, 0, 0)) := by rw [LYC, List.getElem?_append_left (by rw [lyC1_len]; decide)]; rfl
theorem lyC_29 {x y z : Bool} : (LYC x y z)[29]? = some (Sum.inr (60, 0, 0)) := by rw [LYC, List.getElem?_append_left (by rw [lyC1_len]; decide)]; rfl
theorem lyC_30 {x y z : Bool} : (LYC x y z)[30]? = some (Sum.inr (60, 0, 0)) := by rw [LYC, List.getElem?_append_left (by rw [lyC1_len]; decide)]; rfl
theorem lyC_31 {x y z : Bool} : (LYC x y z)[31]? = some (Sum.inl (0, 0 :: 37 :: 41 :: 0 :: 45 :: 49 :: 53 :: 1 :: 1 :: 1 :: [])) := by rw [LYC, List.getElem?_append_left (by rw [lyC1_len]; decide)]; rfl
theorem lyC_32 {x y z : Bool} : (LYC x y z)[32]? = some (Sum.inl (0, 0 :: 38 :: 42 :: 0 :: 46 :: 50 :: 54 :: 1 :: 1 :: 1 :: [])) := by rw [LYC, List.getElem?_append_left (by rw [lyC1_len]; decide)]; rfl
theorem lyC_33 {x y z : Bool} : (LYC x y z)[33]? = some (Sum.inl (0, 0 :: 39 :: 43 :: 0 :: 47 :: 51 :: 55 :: 1 :: 1 :: 1 :: [])) := by rw [LYC, List.getElem?_append_left (by rw [lyC1_len]; decide)]; rfl
theorem lyC_34 {x y z : Bool} : (LYC x y z)[34]? = some (Sum.inl (0, 0 :: 40 :: 44 :: 0 :: 48 :: 52 :: 56 :: 1 :: 1 :: 1 :: [])) := by rw [LYC, List.getElem?_append_left (by rw [lyC1_len]; decide)]; rfl
theorem lyC_35 {x y z : Bool} : (LYC x y z)[35]? = some (Sum.inr (4, 0, 0)) := by rw [LYC, List.getElem?_append_left (by rw [lyC1_len]; decide)]; rfl
theorem lyC_36 {x y z : Bool} : (LYC x y z)[36]? = some (Sum.inr (4, 0, 0)) := by rw [LYC, List.getElem?_append_left (by rw [lyC1_len]; decide)]; rfl
theorem lyC_37 {x y z : Bool} : (LYC x y z)[37]? = some (Sum.inr (4, 0, 0)) := by rw [LYC, List.getElem?_append_left (by rw [lyC1_len]; decide)]; rfl
theorem lyC_38 {x y z : Bool} : (LYC x y z)[38]? = some (Sum.inr (4, 0, 0)) := by rw [LYC, List.getElem?_append_left (by rw [lyC1_len]; decide)]; rfl
theorem lyC_39 {x y z : Bool} : (LYC x y z)[39]? = some (Sum.inr (4, 0, 0)) := by rw [LYC, List.getElem?_append_left (by rw [lyC1_len]; decide)]; rfl
theorem lyC_40 {x y z : Bool} : (LYC x y z)[40]? = some (Sum.inr (4, 0, 0)) := by rw [LYC, List.getElem?_append_left (by rw [lyC1_len]; decide)]; rfl
theorem lyC_41 {x y z : Bool} : (LYC x y z)[41]? = some (Sum.inr (4, 0, 0)) := by rw [LYC, List.getElem?_append_left (by rw [lyC1_len]; decide)]; rfl
theorem lyC_42 {x y z : Bool} : (LYC x y z)[42]? = some (Sum.inr (4, 0, 0)) := by rw [LYC, List.getElem?_append_left (by rw [lyC1_len]; decide)]; rfl
theorem lyC_43 {x y z : Bool} : (LYC x y z)[43]? = some (Sum.inr (8, 0, 0)) := by rw [LYC, List.getElem?_append_left (by rw [lyC1_len]; decide)]; rfl
theorem lyC_44 {x y z : Bool} : (LYC x y z)[44]? = some (Sum.inr (8, 0, 0)) := by rw [LYC, List.getElem?_append_left (by rw [lyC1_len]; decide)]; rfl
theorem lyC_45 {x y z : Bool} : (LYC x y z)[45]? = some (Sum.inr (8, 0, 0)) := by rw [LYC, List.getElem?_append_left (by rw [lyC1_len]; decide)]; rfl
theorem lyC_46 {x y z : Bool} : (LYC x y z)[46]? = some (Sum.inr (8, 0, 0)) := by rw [LYC, List.getElem?_append_left (by rw [lyC1_len]; decide)]; rfl
theorem lyC_47 {x y z : Bool} : (LYC x y z)[47]? = some (Sum.inr (8, 0, 0)) := by rw [LYC, List.getElem?_append_left (by rw [lyC1_len]; decide)]; rfl
theorem lyC_48 {x y z : Bool} : (LYC x y z)[48]? = some (Sum.inr (8, 0, 0)) := by rw [LYC, List.getElem?_append_left (by rw [lyC1_len]; decide)]; rfl
theorem lyC_49 {x y z : Bool} : (LYC x y z)[49]? = some (Sum.inr (8, 0, 0)) := by rw [LYC, List.getElem?_append_left (by rw [lyC1_len]; decide)]; rfl
theorem lyC_50 {x y z : Bool} : (LYC x y z)[50]? = some (Sum.inr (8, 0, 0)) := by rw [LYC, List.getElem?_append_left (by rw [lyC1_len]; decide)]; rfl
theorem lyC_51 {x y z : Bool} : (LYC x y z)[51]? = some (Sum.inr (8, 0, 0)) := by rw [LYC, List.getElem?_append_left (by rw [lyC1_len]; decide)]; rfl
theorem lyC_52 {x y z : Bool} : (LYC x y z)[52]? = some (Sum.inr (8, 0, 0)) := by rw [LYC, List.getElem?_append_left (by rw [lyC1_len]; decide)]; rfl
theorem lyC_53 {x y z : Bool} : (LYC x y z)[53]? = some (Sum.inr (8, 0, 0)) := by rw [LYC, List.getElem?_append_left (by rw [lyC1_len]; decide)]; rfl
theorem lyC_54 {x y z : Bool} : (LYC x y z)[54]? = some (Sum.inr (8, 0, 0)) := by rw [LYC, List.getElem?_append_left (by rw [lyC1_len]; decide)]; rfl
theorem lyC_55 {x y z : Bool} : (LYC x y z)[55]? = some (Sum.inr (10, 0, 0)) := by rw [LYC, List.getElem?_append_left (by rw [lyC1_len]; decide)]; rfl
theorem lyC_56 {x y z : Bool} : (LYC x y z)[56]? = some (Sum.inr (10, 0, 0)) := by rw [LYC, List.getElem?_append_left (by rw [lyC1_len]; decide)]; rfl
theorem lyC_57 {x y z : Bool} : (LYC x y z)[57]? = some (Sum.inr (10, 0, 0)) := by rw [LYC, List.getElem?_append_left (by rw [lyC1_len]; decide)]; rfl
theorem lyC_58 {x y z : Bool} : (LYC x y z)[58]? = some (Sum.inr (10, 0, 0)) := by rw [LYC, List.getElem?_append_left (by rw [lyC1_len]; decide)]; rfl
theorem lyC_59 {x y z : Bool} : (LYC x y z)[59]? = some (Sum.inr (10, 0, 0)) := by rw [LYC, List.getElem?_append_left (by rw [lyC1_len]; decide)]; rfl
theorem lyC_60 {x y z : Bool} : (LYC x y z)[60]? = some (Sum.inr (10, 0, 0)) := by rw [LYC, List.getElem?_append_left (by rw [lyC1_len]; decide)]; rfl
theorem lyC_61 {x y z : Bool} : (LYC x y z)[61]? = some (Sum.inr (10, 0, 0)) := by rw [LYC, List.getElem?_append_left (by rw [lyC1_len]; decide)]; rfl
theorem lyC_62 {x y z : Bool} : (LYC x y z)[62]? = some (Sum.inr (10, 0, 0)) := by rw [LYC, List.getElem?_append_left (by rw [lyC1_len]; decide)]; rfl
theorem lyC_63 {x y z : Bool} : (LYC x y z)[63]? = some (Sum.inr (6, 0, 0)) := by rw [LYC, List.getElem?_append_left (by rw [lyC1_len]; decide)]; rfl
theorem lyC_64 {x y z : Bool} : (LYC x y z)[64]? = some (Sum.inr (6, 0, 0)) := by rw [LYC, List.getElem?_append_left (by rw [lyC1_len]; decide)]; rfl
theorem lyC_65 {x y z : Bool} : (LYC x y z)[65]? = some (Sum.inr (6, 0, 0)) := by rw [LYC, List.getElem?_append_left (by rw [lyC1_len]; decide)]; rfl
theorem lyC_66 {x y z : Bool} : (LYC x y z)[66]? = some (Sum.inr (6, 0, 0)) := by rw [LYC, List.getElem?_append_left (by rw [lyC1_len]; decide)]; rfl
theorem lyC_67 {x y z : Bool} : (LYC x y z)[67]? = some (Sum.inr (6, 0, 0)) := by rw [LYC, List.getElem?_append_left (by rw [lyC1_len]; decide)]; rfl
theorem lyC_68 {x y z : Bool} : (LYC x y z)[68]? = some (Sum.inr (6, 0, 0)) := by rw [LYC, List.getElem?_append_left (by rw [lyC1_len]; decide)]; rfl
theorem lyC_69 {x y z : Bool} : (LYC x y z)[69]? = some (Sum.inr (6, 0, 0)) := by rw [LYC, List.getElem?_append_left (by rw [lyC1_len]; decide)]; rfl
theorem lyC_70 {x y z : Bool} : (LYC x y z)[70]? = some (Sum.inr (6, 0, 0)) := by rw [LYC, List.getElem?_append_left (by rw [lyC1_len]; decide)]; rfl
theorem lyC_71 {x y z : Bool} : (LYC x y z)[71]? = some (Sum.inr (6, 0, 0)) := by rw [LYC, List.getElem?_append_left (by rw [lyC1_len]; decide)]; rfl
theorem lyC_72 {x y z : Bool} : (LYC x y z)[72]? = some (Sum.inr (6, 0, 0)) := by rw [LYC, List.getElem?_append_left (by rw [lyC1_len]; decide)]; rfl
theorem lyC_73 {x y z : Bool} : (LYC x y z)[73]? = some (Sum.inr (6, 0, 0)) := by rw [LYC, List.getElem?_append_left (by rw [lyC1_len]; decide)]; rfl
theorem lyC_74 {x y z : Bool} : (LYC x y z)[74]? = some (Sum.inr (6, 0, 0)) := by rw [LYC, List.getElem?_append_left (by rw [lyC1_len]; decide)]; rfl
theorem lyC_75 {x y z : Bool} : (LYC x y z)[75]? = some (Sum.inr (6, 0, 0)) := by rw [LYC, List.getElem?_append_left (by rw [lyC1_len]; decide)]; rfl
theorem lyC_76 {x y z : Bool} : (LYC x y z)[76]? = some (Sum.inr (6, 0, 0)) := by rw [LYC, List.getElem?_append_left (by rw [lyC1_len]; decide)]; rfl
theorem lyC_77 {x y z : Bool} : (LYC x y z)[77]? = some (Sum.inr (6, 0, 0)) := by rw [LYC, List.getElem?_append_left (by rw [lyC1_len]; decide)]; rfl
theorem lyC_78 {x y z : Bool} : (LYC x y z)[78]? = some (Sum.inr (6, 0, 0)) := by rw [LYC, List.getElem?_append_left (by rw [lyC1_len]; decide)]; rfl
theorem lyC_79 {x y z : Bool} : (LYC x y z)[79]? = some (Sum.inl (7, 25 :: 33 :: 0 :: 0 :: 57 :: 61 :: 0 :: 65 :: 69 :: 73 :: 77 :: [])) := by rw [LYC, List.getElem?_append_left (by rw [lyC1_len]; decide)]; rfl
theorem lyC_80 {x y z : Bool} : (LYC x y z)[80]? = some (Sum.inl (7, 26 :: 34 :: 0 :: 0 :: 58 :: 62 :: 0 :: 66 :: 70 :: 74 :: 78 :: [])) := by rw [LYC, List.getElem?_append_left (by rw [lyC1_len]; decide)]; rfl
theorem lyC_81 {x y z : Bool} : (LYC x y z)[81]? = some (Sum.inl (7, 27 :: 35 :: 0 :: 0 :: 59 :: 63 :: 0 :: 67 :: 71 :: 75 :: 79 :: [])) := by rw [LYC, List.getElem?_append_left (by rw [lyC1_len]; decide)]; rfl
theorem lyC_82 {x y z : Bool} : (LYC x y z)[82]? = some (Sum.inl (7, 28 :: 36 :: 0 :: 0 :: 60 :: 64 :: 0 :: 68 :: 72 :: 76 :: 80 :: [])) := by rw [LYC, List.getElem?_append_left (by rw [lyC1_len]; decide)]; rfl
theorem lyC_83 {x y z : Bool} : (LYC x y z)[83]? = some (Sum.inr (2, 5, 81)) := by rw [LYC, List.getElem?_append_left (by rw [lyC1_len]; decide)]; rfl
theorem lyC_84 {x y z : Bool} : (LYC x y z)[84]? = some (Sum.inr (2, 2, 0)) := by rw [LYC, List.getElem?_append_left (by rw [lyC1_len]; decide)]; rfl
theorem lyC_85 {x y z : Bool} : (LYC x y z)[85]? = some (Sum.inl (5, 88 :: 89 :: [])) := by rw [LYC, List.getElem?_append_left (by rw [lyC1_len]; decide)]; rfl
theorem lyC_86 {x y z : Bool} : (LYC x y z)[86]? = some (Sum.inr (46, 4, 103)) := by rw [LYC, List.getElem?_append_left (by rw [lyC1_len]; decide)]; rfl
theorem lyC_87 {x y z : Bool} : (LYC x y z)[87]? = some (Sum.inr (46, 0, 0)) := by rw [LYC, List.getElem?_append_left (by rw [lyC1_len]; decide)]; rfl
theorem lyC_88 {x y z : Bool} : (LYC x y z)[88]? = some (Sum.inl (1, 91 :: 0 :: 93 :: 94 :: 95 :: 0 :: [])) := by rw [LYC, List.getElem?_append_left (by rw [lyC1_len]; decide)]; rfl
theorem lyC_89 {x y z : Bool} : (LYC x y z)[89]? = some (Sum.inl (9, 92 :: 0 :: [])) := by rw [LYC, List.getElem?_append_left (by rw [lyC1_len]; decide)]; rfl
theorem lyC_90 {x y z : Bool} : (LYC x y z)[90]? = some (Sum.inr (8, 0, 0)) := by rw [LYC, List.getElem?_append_left (by rw [lyC1_len]; decide)]; rfl
theorem lyC_91 {x y z : Bool} : (LYC x y z)[91]? = some (Sum.inr (28, 0, 0)) := by rw [LYC, List.getElem?_append_left (by rw [lyC1_len]; decide)]; rfl
theorem lyC_92 {x y z : Bool} : (LYC x y z)[92]? = some (Sum.inr (28, 0, 0)) := by rw [LYC, List.getElem?_append_left (by rw [lyC1_len]; decide)]; rfl
theorem lyC_93 {x y z : Bool} : (LYC x y z)[93]? = some (Sum.inr (8, 0, 0)) := by rw [LYC, List.getElem?_append_left (by rw [lyC1_len]; decide)]; rfl
theorem lyC_94 {x y z : Bool} : (LYC x y z)[94]? = some (Sum.inr (10, 0, 0)) := by rw [LYC, List.getElem?_append_left (by rw [lyC1_len]; decide)]; rfl
theorem lyC_95 {x y z : Bool} : (LYC x y z)[95]? = some (Sum.inl (3, 0 :: 98 :: 0 :: 0 :: 0 :: 99 :: 0 :: 100 :: 101 :: 102 :: 103 :: 104 :: 0 :: [])) := by rw [LYC, List.getElem?_append_left (by rw [lyC1_len]; decide)]; rfl
theorem lyC_96 {x y z : Bool} : (LYC x y z)[96]? = some (Sum.inr (3, 0, 0)) := by rw [LYC, List.getElem?_append_left (by rw [lyC1_len]; decide)]; rfl
theorem lyC_97 {x y z : Bool} : (LYC x y z)[97]? = some (Sum.inr (60, 4, 149)) := by rw [LYC, List.getElem?_append_left (by rw [lyC1_len]; decide)]; rfl
theorem lyC_98 {x y z : Bool} : (LYC x y z)[98]? = some (Sum.inr (10, 0, 0)) := by rw [LYC, List.getElem?_append_left (by rw [lyC1_len]; decide)]; rfl
theorem lyC_99 {x y z : Bool} : (LYC x y z)[99]? = some (Sum.inr (3, 4, 209)) := by rw [LYC, List.getElem?_append_left (by rw [lyC1_len]; decide)]; rfl
theorem lyC_100 {x y z : Bool} : (LYC x y z)[100]? = some (Sum.inr (3, 4, 212)) := by rw [LYC, List.getElem?_append_left (by rw [lyC1_len]; decide)]; rfl
theorem lyC_101 {x y z : Bool} : (LYC x y z)[101]? = some (Sum.inr (3, 0, 0)) := by rw [LYC, List.getElem?_append_left (by rw [lyC1_len]; decide)]; rfl
theorem lyC_102 {x y z : Bool} : (LYC x y z)[102]? = some (Sum.inr (3, 0, 0)) := by rw [LYC, List.getElem?_append_left (by rw [lyC1_len]; decide)]; rfl
theorem lyC2_a : ∀ t, t < 46 → LYC2[t]? = some (Sum.inr (70, 0, 0)) := by decide +kernel
theorem lyC2_b : ∀ t, t < 66 → LYC2[46 + t]? = some (Sum.inr (10, 0, 0)) := by decide +kernel
theorem lyC_r {x y z : Bool} : ∀ t, t < 46 → (LYC x y z)[103 + t]? = some (Sum.inr (70, 0, 0)) := fun t h => by rw [LYC, List.getElem?_append_right (by rw [lyC1_len]; omega), lyC1_len, show 103 + t - 103 = t by omega]; exact lyC2_a t h
theorem lyC_c {x y z : Bool} : ∀ t, t < 60 → (LYC x y z)[149 + t]? = some (Sum.inr (10, 0, 0)) := fun t h => by rw [LYC, List.getElem?_append_right (by rw [lyC1_len]; omega), lyC1_len, show 149 + t - 103 = 46 + (0 + t) by omega]; exact lyC2_b (0 + t) (by omega)
theorem lyC_b {x y z : Bool} : ∀ t, t < 3 → (LYC x y z)[209 + t]? = some (Sum.inr (10, 0, 0)) := fun t h => by rw [LYC, List.getElem?_append_right (by rw [lyC1_len]; omega), lyC1_len, show 209 + t - 103 = 46 + (60 + t) by omega]; exact lyC2_b (60 + t) (by omega)
theorem lyC_s {x y z : Bool} : ∀ t, t < 3 → (LYC x y z)[212 + t]? = some (Sum.inr (10, 0, 0)) := fun t h => by rw [LYC, List.getElem?_append_right (by rw [lyC1_len]; omega), lyC1_len, show 212 + t - 103 = 46 + (63 + t) by omega]; exact lyC2_b (63 + t) (by omega)
def shOk (e : Sh) : Bool := match e with
  | .inl (_, ks) => Nat.ble ks.length 64
  | .inr _ => true
theorem LYok_of {LY : List Sh} (h : LY.all shOk = true) : LYok LY := by
  intro j ci ks hj
  exact Nat.le_of_ble_eq_true (List.all_eq_true.mp h _ (List.mem_of_getElem? hj))
theorem LYM_ok : LYok LYM := LYok_of (by decide +kernel)
theorem LYC2_ok : LYC2.all shOk = true := by decide +kernel
set_option maxRecDepth 100000 in
theorem LYC1_ok {x y z : Bool} : (LYC1 x y z).all shOk = true := rfl
theorem LYC_ok {x y z : Bool} : LYok (LYC x y z) := LYok_of (by rw [LYC, List.all_append, LYC1_ok, LYC2_ok]; rfl)
theorem lyput_bytes : ∀ x : Bool, (LYC x false false).set 3 (Sum.inl (4, (0 :: 0 :: (cond x 2 6 + 2) :: 0 :: 0 :: 0 :: 0 :: 1 :: 0 :: 0 :: 0 :: 6 :: 7 :: []).set 2 (2 + 2))) = LYC true false false := by decide +kernel
theorem lyput_now : (LYC true false false).set 0 (Sum.inl (10, (3 :: 5 :: (cond false 80 79 + 2) :: (cond false 79 80 + 2) :: 85 :: 86 :: 87 :: 9 :: 97 :: 90 :: 96 :: 15 :: 17 :: 19 :: 0 :: 21 :: 0 :: 23 :: []).set 2 (80 + 2))) = LYC true true false := by decide +kernel
theorem lyput_draft : (LYC true true false).set 0 (Sum.inl (10, (3 :: 5 :: (cond true 80 79 + 2) :: (cond false 79 80 + 2) :: 85 :: 86 :: 87 :: 9 :: 97 :: 90 :: 96 :: 15 :: 17 :: 19 :: 0 :: 21 :: 0 :: 23 :: []).set 3 (79 + 2))) = LYC true true true := by decide +kernel
/-! places of the arrays and keys of the fields, by name -/
abbrev mA_tape : Nat := 1
abbrev mA_s : Nat := 2
abbrev mA_h : Nat := 3
abbrev mA_names : Nat := 4
abbrev mA_reserved : Nat := 5
abbrev mA_waves : Nat := 6
abbrev mA_board : Nat := 7
abbrev mA_stepRow : Nat := 8
abbrev mA_row : Nat := 9
abbrev mA_rule : Nat := 10
abbrev mA_strengths : Nat := 11
abbrev mA_given : Nat := 12
abbrev mA_track : Nat := 13
abbrev mA_picked : Nat := 14
abbrev mA_firstPicked : Nat := 15
abbrev mA_firstBy : Nat := 16
abbrev mA_numbers : Nat := 17
abbrev mA_points : Nat := 18
abbrev mA_pointSet : Nat := 19
abbrev mA_rest : Nat := 20
abbrev mA_fixed : Nat := 21
abbrev mA_kept : Nat := 22
abbrev mA_isKept : Nat := 23
abbrev mF_thrown : Nat := 0
abbrev mF_length : Nat := 2
abbrev mF_size : Nat := 3
abbrev mF_p : Nat := 4
abbrev mF_limit : Nat := 5
abbrev mF_token : Nat := 10
abbrev mF_at : Nat := 11
abbrev mF_span : Nat := 12
abbrev mF_number : Nat := 13
abbrev mF_fault : Nat := 14
abbrev mF_faultAt : Nat := 15
abbrev mF_word : Nat := 16
abbrev mF_got : Nat := 17
abbrev mF_lines : Nat := 18
abbrev mF_hasLattice : Nat := 19
abbrev mF_m : Nat := 20
abbrev mF_wave : Nat := 21
abbrev mF_wide : Nat := 25
abbrev mF_high : Nat := 26
abbrev mF_rank : Nat := 27
abbrev mF_ruleMany : Nat := 31
abbrev mF_strengthMany : Nat := 32
abbrev mF_rootSet : Nat := 33
abbrev mF_hasKept : Nat := 34
abbrev mF_hasTrack : Nat := 37
abbrev mF_madeMany : Nat := 41
abbrev mF_madeSets : Nat := 42
abbrev mF_liarMany : Nat := 43
abbrev mF_liarSets : Nat := 44
abbrev mF_firstLiars : Nat := 45
abbrev mF_numberMany : Nat := 47
abbrev mF_crossX : Nat := 48
abbrev mF_crossY : Nat := 49
abbrev mF_crossBelow : Nat := 50
abbrev mF_pointMany : Nat := 55
abbrev mF_fixMany : Nat := 56
