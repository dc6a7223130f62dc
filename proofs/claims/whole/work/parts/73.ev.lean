/-! evaluation: numerals, lengths, guards -/
theorem L_0 : (0 : Int32) = nI 0 := rfl
theorem L_1 : (1 : Int32) = nI 1 := rfl
theorem L_2 : (2 : Int32) = nI 2 := rfl
theorem L_3 : (3 : Int32) = nI 3 := rfl
theorem L_4 : (4 : Int32) = nI 4 := rfl
theorem L_5 : (5 : Int32) = nI 5 := rfl
theorem L_6 : (6 : Int32) = nI 6 := rfl
theorem L_7 : (7 : Int32) = nI 7 := rfl
theorem L_8 : (8 : Int32) = nI 8 := rfl
theorem L_9 : (9 : Int32) = nI 9 := rfl
theorem L_10 : (10 : Int32) = nI 10 := rfl
theorem L_11 : (11 : Int32) = nI 11 := rfl
theorem L_12 : (12 : Int32) = nI 12 := rfl
theorem L_16 : (16 : Int32) = nI 16 := rfl
theorem L_20 : (20 : Int32) = nI 20 := rfl
theorem L_21 : (21 : Int32) = nI 21 := rfl
theorem L_25 : (25 : Int32) = nI 25 := rfl
theorem L_26 : (26 : Int32) = nI 26 := rfl
theorem L_31 : (31 : Int32) = nI 31 := rfl
theorem L_40 : (40 : Int32) = nI 40 := rfl
theorem L_41 : (41 : Int32) = nI 41 := rfl
theorem L_48 : (48 : Int32) = nI 48 := rfl
theorem L_55 : (55 : Int32) = nI 55 := rfl
theorem L_56 : (56 : Int32) = nI 56 := rfl
theorem L_57 : (57 : Int32) = nI 57 := rfl
theorem L_58 : (58 : Int32) = nI 58 := rfl
theorem L_59 : (59 : Int32) = nI 59 := rfl
theorem L_60 : (60 : Int32) = nI 60 := rfl
theorem L_61 : (61 : Int32) = nI 61 := rfl
theorem L_63 : (63 : Int32) = nI 63 := rfl
theorem L_90 : (90 : Int32) = nI 90 := rfl
theorem L_97 : (97 : Int32) = nI 97 := rfl
theorem L_99 : (99 : Int32) = nI 99 := rfl
theorem L_100 : (100 : Int32) = nI 100 := rfl
theorem L_122 : (122 : Int32) = nI 122 := rfl
theorem L_343 : (343 : Int32) = nI 343 := rfl
theorem L_600 : (600 : Int32) = nI 600 := rfl
theorem L_999 : (999 : Int32) = nI 999 := rfl
theorem L_1000 : (1000 : Int32) = nI 1000 := rfl
theorem L_2200 : (2200 : Int32) = nI 2200 := rfl
theorem L_2256 : (2256 : Int32) = nI 2256 := rfl
theorem LCv_3 : LC 3 = 6 := rfl
theorem LCv_12 : LC 12 = 4 := rfl
theorem LCv_18 : LC 18 = 8 := rfl
theorem LCv_19 : LC 19 = 8 := rfl
theorem LCv_20 : LC 20 = 8 := rfl
theorem LCv_21 : LC 21 = 8 := rfl
theorem LCv_22 : LC 22 = 6 := rfl
theorem LCv_23 : LC 23 = 6 := rfl
theorem LCv_27 : LC 27 = 56 := rfl
theorem LCv_28 : LC 28 = 8 := rfl
theorem LCv_29 : LC 29 = 8 := rfl
theorem LCv_30 : LC 30 = 8 := rfl
theorem LCv_31 : LC 31 = 6 := rfl
theorem LCv_32 : LC 32 = 6 := rfl
theorem LCv_33 : LC 33 = 6 := rfl
theorem LCv_34 : LC 34 = 48 := rfl
theorem LCv_35 : LC 35 = 40 := rfl
theorem LCv_40 : LC 40 = 3 := rfl
theorem LCv_42 : LC 42 = 8 := rfl
theorem LCv_43 : LC 43 = 8 := rfl
theorem LCv_44 : LC 44 = 42 := rfl
theorem LCv_45 : LC 45 = 6 := rfl
theorem LCv_47 : LC 47 = 6 := rfl
theorem LCv_49 : LC 49 = 6 := rfl
theorem LCv_50 : LC 50 = 6 := rfl
theorem LCv_51 : LC 51 = 6 := rfl
theorem LMv_1 : LM 1 = 6 := rfl
theorem LMv_2 : LM 2 = 240 := rfl
theorem LMv_3 : LM 3 = 4 := rfl
theorem LMv_4 : LM 4 = 360 := rfl
theorem LMv_5 : LM 5 = 6 := rfl
theorem LMv_6 : LM 6 = 6 := rfl
theorem LMv_7 : LM 7 = 56 := rfl
theorem LMv_8 : LM 8 = 8 := rfl
theorem LMv_9 : LM 9 = 8 := rfl
theorem LMv_10 : LM 10 = 55 := rfl
theorem LMv_11 : LM 11 = 55 := rfl
theorem LMv_12 : LM 12 = 2200 := rfl
theorem LMv_13 : LM 13 = 6768 := rfl
theorem LMv_15 : LM 15 = 6 := rfl
theorem LMv_16 : LM 16 = 6 := rfl
theorem LMv_17 : LM 17 = 6 := rfl
theorem LMv_18 : LM 18 = 63 := rfl
theorem LMv_19 : LM 19 = 9 := rfl
theorem LMv_20 : LM 20 = 9 := rfl
theorem LMv_21 : LM 21 = 7 := rfl
theorem LMv_22 : LM 22 = 6 := rfl
theorem LMv_23 : LM 23 = 6 := rfl
theorem LMv_24 : LM 24 = 343 := rfl
theorem gd_inb {β : Type} {j n : Nat} {o : Option β} (h : j < n) (hn : n < 2 ^ 31) : gd (inb (nI j) n) o = o := gd_t (inb_nI h hn)
theorem gd_B0 {β : Type} {o : Option β} : gd (isB (nI 0)) o = o := rfl
theorem gd_B1 {β : Type} {o : Option β} : gd (isB (nI 1)) o = o := rfl
