/-! the cells behind the constructor, by their places, and the references in them that never change -/
def mSH : List (Nat × Nat) := [(10, 13), (9, 3), (20, 160), (0, 8), (20, 24), (20, 24), (20, 24), (22, 24), (3, 3), (20, 160), (23, 4), (2, 4), (20, 160), (20, 64), (2, 4), (20, 160), (20, 64), (2, 4), (20, 160), (20, 64), (2, 4), (20, 160), (20, 64), (8, 13), (20, 24), (20, 24), (20, 24), (20, 24), (20, 24), (20, 24), (20, 24), (20, 24), (20, 24), (20, 8), (20, 256), (4, 5), (20, 8), (20, 8), (20, 24), (24, 7), (21, 25), (21, 25), (21, 25), (21, 25), (21, 25), (21, 25), (21, 25), (6, 7), (20, 24), (20, 24), (1, 11), (20, 200), (5, 13), (20, 200), (20, 24), (5, 13), (20, 200), (20, 24), (7, 10), (20, 24), (20, 24), (21, 24), (21, 24), (21, 24), (21, 24)]
def mFixL : List (Nat × Int × Int) := [(0, 0, 1), (0, 1, 3), (0, 2, 8), (0, 3, 10), (0, 4, 23), (0, 5, 35), (0, 6, 47), (0, 7, 50), (0, 8, 52), (0, 9, 55), (0, 10, 58), (1, 0, 2), (3, 0, 1), (3, 1, 4), (3, 2, 5), (3, 3, 6), (3, 4, 7), (8, 0, 1), (8, 1, 9), (10, 0, 11), (10, 1, 14), (10, 2, 17), (10, 3, 20), (11, 0, 12), (11, 2, 13), (14, 0, 15), (14, 2, 16), (17, 0, 18), (17, 2, 19), (20, 0, 21), (20, 2, 22), (23, 2, 24), (23, 3, 25), (23, 4, 26), (23, 5, 27), (23, 6, 28), (23, 7, 29), (23, 8, 30), (23, 9, 31), (23, 10, 32), (23, 11, 33), (23, 12, 34), (35, 0, 23), (35, 1, 36), (35, 2, 37), (35, 3, 38), (35, 4, 39), (39, 0, 40), (39, 1, 41), (39, 2, 42), (39, 3, 43), (39, 4, 44), (39, 5, 45), (39, 6, 46), (47, 3, 48), (47, 6, 49), (50, 0, 23), (50, 1, 35), (50, 2, 51), (52, 0, 23), (52, 1, 35), (52, 2, 53), (52, 12, 54), (55, 0, 23), (55, 1, 35), (55, 2, 56), (55, 12, 57), (58, 0, 23), (58, 1, 35), (58, 2, 59), (58, 3, 60), (58, 6, 63), (58, 7, 64)]
def mFix (mem : Nat → Int → Int) : Prop := ∀ q ∈ mFixL, mem q.1 q.2.1 = q.2.2
def fixOK (a : Nat) (k : Int) : Bool := mFixL.all fun q => !(q.1 == a && q.2.1 == k)
def fixRow (a : Nat) : Bool := mFixL.all fun q => !(q.1 == a)
theorem sh_0 : mSH[0]? = some (10, 13) := rfl
theorem sh_1 : mSH[1]? = some (9, 3) := rfl
theorem sh_2 : mSH[2]? = some (20, 160) := rfl
theorem sh_3 : mSH[3]? = some (0, 8) := rfl
theorem sh_4 : mSH[4]? = some (20, 24) := rfl
theorem sh_5 : mSH[5]? = some (20, 24) := rfl
theorem sh_6 : mSH[6]? = some (20, 24) := rfl
theorem sh_7 : mSH[7]? = some (22, 24) := rfl
theorem sh_8 : mSH[8]? = some (3, 3) := rfl
theorem sh_9 : mSH[9]? = some (20, 160) := rfl
theorem sh_10 : mSH[10]? = some (23, 4) := rfl
theorem sh_11 : mSH[11]? = some (2, 4) := rfl
theorem sh_12 : mSH[12]? = some (20, 160) := rfl
theorem sh_13 : mSH[13]? = some (20, 64) := rfl
theorem sh_14 : mSH[14]? = some (2, 4) := rfl
theorem sh_15 : mSH[15]? = some (20, 160) := rfl
theorem sh_16 : mSH[16]? = some (20, 64) := rfl
theorem sh_17 : mSH[17]? = some (2, 4) := rfl
theorem sh_18 : mSH[18]? = some (20, 160) := rfl
theorem sh_19 : mSH[19]? = some (20, 64) := rfl
theorem sh_20 : mSH[20]? = some (2, 4) := rfl
theorem sh_21 : mSH[21]? = some (20, 160) := rfl
theorem sh_22 : mSH[22]? = some (20, 64) := rfl
theorem sh_23 : mSH[23]? = some (8, 13) := rfl
theorem sh_24 : mSH[24]? = some (20, 24) := rfl
theorem sh_25 : mSH[25]? = some (20, 24) := rfl
theorem sh_26 : mSH[26]? = some (20, 24) := rfl
theorem sh_27 : mSH[27]? = some (20, 24) := rfl
theorem sh_28 : mSH[28]? = some (20, 24) := rfl
theorem sh_29 : mSH[29]? = some (20, 24) := rfl
theorem sh_30 : mSH[30]? = some (20, 24) := rfl
theorem sh_31 : mSH[31]? = some (20, 24) := rfl
theorem sh_32 : mSH[32]? = some (20, 24) := rfl
theorem sh_33 : mSH[33]? = some (20, 8) := rfl
theorem sh_34 : mSH[34]? = some (20, 256) := rfl
theorem sh_35 : mSH[35]? = some (4, 5) := rfl
theorem sh_36 : mSH[36]? = some (20, 8) := rfl
theorem sh_37 : mSH[37]? = some (20, 8) := rfl
theorem sh_38 : mSH[38]? = some (20, 24) := rfl
theorem sh_39 : mSH[39]? = some (24, 7) := rfl
theorem sh_40 : mSH[40]? = some (21, 25) := rfl
theorem sh_41 : mSH[41]? = some (21, 25) := rfl
theorem sh_42 : mSH[42]? = some (21, 25) := rfl
theorem sh_43 : mSH[43]? = some (21, 25) := rfl
theorem sh_44 : mSH[44]? = some (21, 25) := rfl
theorem sh_45 : mSH[45]? = some (21, 25) := rfl
theorem sh_46 : mSH[46]? = some (21, 25) := rfl
theorem sh_47 : mSH[47]? = some (6, 7) := rfl
theorem sh_48 : mSH[48]? = some (20, 24) := rfl
theorem sh_49 : mSH[49]? = some (20, 24) := rfl
theorem sh_50 : mSH[50]? = some (1, 11) := rfl
theorem sh_51 : mSH[51]? = some (20, 200) := rfl
theorem sh_52 : mSH[52]? = some (5, 13) := rfl
theorem sh_53 : mSH[53]? = some (20, 200) := rfl
theorem sh_54 : mSH[54]? = some (20, 24) := rfl
theorem sh_55 : mSH[55]? = some (5, 13) := rfl
theorem sh_56 : mSH[56]? = some (20, 200) := rfl
theorem sh_57 : mSH[57]? = some (20, 24) := rfl
theorem sh_58 : mSH[58]? = some (7, 10) := rfl
theorem sh_59 : mSH[59]? = some (20, 24) := rfl
theorem sh_60 : mSH[60]? = some (20, 24) := rfl
theorem sh_61 : mSH[61]? = some (21, 24) := rfl
theorem sh_62 : mSH[62]? = some (21, 24) := rfl
theorem sh_63 : mSH[63]? = some (21, 24) := rfl
theorem sh_64 : mSH[64]? = some (21, 24) := rfl
theorem fx_0_0 : ((0, 0, 1) : Nat × Int × Int) ∈ mFixL := by decide +kernel
theorem fx_0_1 : ((0, 1, 3) : Nat × Int × Int) ∈ mFixL := by decide +kernel
theorem fx_0_2 : ((0, 2, 8) : Nat × Int × Int) ∈ mFixL := by decide +kernel
theorem fx_0_3 : ((0, 3, 10) : Nat × Int × Int) ∈ mFixL := by decide +kernel
theorem fx_0_4 : ((0, 4, 23) : Nat × Int × Int) ∈ mFixL := by decide +kernel
theorem fx_0_5 : ((0, 5, 35) : Nat × Int × Int) ∈ mFixL := by decide +kernel
theorem fx_0_6 : ((0, 6, 47) : Nat × Int × Int) ∈ mFixL := by decide +kernel
theorem fx_0_7 : ((0, 7, 50) : Nat × Int × Int) ∈ mFixL := by decide +kernel
theorem fx_0_8 : ((0, 8, 52) : Nat × Int × Int) ∈ mFixL := by decide +kernel
theorem fx_0_9 : ((0, 9, 55) : Nat × Int × Int) ∈ mFixL := by decide +kernel
theorem fx_0_10 : ((0, 10, 58) : Nat × Int × Int) ∈ mFixL := by decide +kernel
theorem fx_1_0 : ((1, 0, 2) : Nat × Int × Int) ∈ mFixL := by decide +kernel
theorem fx_3_0 : ((3, 0, 1) : Nat × Int × Int) ∈ mFixL := by decide +kernel
theorem fx_3_1 : ((3, 1, 4) : Nat × Int × Int) ∈ mFixL := by decide +kernel
theorem fx_3_2 : ((3, 2, 5) : Nat × Int × Int) ∈ mFixL := by decide +kernel
theorem fx_3_3 : ((3, 3, 6) : Nat × Int × Int) ∈ mFixL := by decide +kernel
theorem fx_3_4 : ((3, 4, 7) : Nat × Int × Int) ∈ mFixL := by decide +kernel
theorem fx_8_0 : ((8, 0, 1) : Nat × Int × Int) ∈ mFixL := by decide +kernel
theorem fx_8_1 : ((8, 1, 9) : Nat × Int × Int) ∈ mFixL := by decide +kernel
theorem fx_10_0 : ((10, 0, 11) : Nat × Int × Int) ∈ mFixL := by decide +kernel
theorem fx_10_1 : ((10, 1, 14) : Nat × Int × Int) ∈ mFixL := by decide +kernel
theorem fx_10_2 : ((10, 2, 17) : Nat × Int × Int) ∈ mFixL := by decide +kernel
theorem fx_10_3 : ((10, 3, 20) : Nat × Int × Int) ∈ mFixL := by decide +kernel
theorem fx_11_0 : ((11, 0, 12) : Nat × Int × Int) ∈ mFixL := by decide +kernel
theorem fx_11_2 : ((11, 2, 13) : Nat × Int × Int) ∈ mFixL := by decide +kernel
theorem fx_14_0 : ((14, 0, 15) : Nat × Int × Int) ∈ mFixL := by decide +kernel
theorem fx_14_2 : ((14, 2, 16) : Nat × Int × Int) ∈ mFixL := by decide +kernel
theorem fx_17_0 : ((17, 0, 18) : Nat × Int × Int) ∈ mFixL := by decide +kernel
theorem fx_17_2 : ((17, 2, 19) : Nat × Int × Int) ∈ mFixL := by decide +kernel
theorem fx_20_0 : ((20, 0, 21) : Nat × Int × Int) ∈ mFixL := by decide +kernel
theorem fx_20_2 : ((20, 2, 22) : Nat × Int × Int) ∈ mFixL := by decide +kernel
theorem fx_23_2 : ((23, 2, 24) : Nat × Int × Int) ∈ mFixL := by decide +kernel
theorem fx_23_3 : ((23, 3, 25) : Nat × Int × Int) ∈ mFixL := by decide +kernel
theorem fx_23_4 : ((23, 4, 26) : Nat × Int × Int) ∈ mFixL := by decide +kernel
theorem fx_23_5 : ((23, 5, 27) : Nat × Int × Int) ∈ mFixL := by decide +kernel
theorem fx_23_6 : ((23, 6, 28) : Nat × Int × Int) ∈ mFixL := by decide +kernel
theorem fx_23_7 : ((23, 7, 29) : Nat × Int × Int) ∈ mFixL := by decide +kernel
theorem fx_23_8 : ((23, 8, 30) : Nat × Int × Int) ∈ mFixL := by decide +kernel
theorem fx_23_9 : ((23, 9, 31) : Nat × Int × Int) ∈ mFixL := by decide +kernel
theorem fx_23_10 : ((23, 10, 32) : Nat × Int × Int) ∈ mFixL := by decide +kernel
theorem fx_23_11 : ((23, 11, 33) : Nat × Int × Int) ∈ mFixL := by decide +kernel
theorem fx_23_12 : ((23, 12, 34) : Nat × Int × Int) ∈ mFixL := by decide +kernel
theorem fx_35_0 : ((35, 0, 23) : Nat × Int × Int) ∈ mFixL := by decide +kernel
theorem fx_35_1 : ((35, 1, 36) : Nat × Int × Int) ∈ mFixL := by decide +kernel
theorem fx_35_2 : ((35, 2, 37) : Nat × Int × Int) ∈ mFixL := by decide +kernel
theorem fx_35_3 : ((35, 3, 38) : Nat × Int × Int) ∈ mFixL := by decide +kernel
theorem fx_35_4 : ((35, 4, 39) : Nat × Int × Int) ∈ mFixL := by decide +kernel
theorem fx_39_0 : ((39, 0, 40) : Nat × Int × Int) ∈ mFixL := by decide +kernel
theorem fx_39_1 : ((39, 1, 41) : Nat × Int × Int) ∈ mFixL := by decide +kernel
theorem fx_39_2 : ((39, 2, 42) : Nat × Int × Int) ∈ mFixL := by decide +kernel
theorem fx_39_3 : ((39, 3, 43) : Nat × Int × Int) ∈ mFixL := by decide +kernel
theorem fx_39_4 : ((39, 4, 44) : Nat × Int × Int) ∈ mFixL := by decide +kernel
theorem fx_39_5 : ((39, 5, 45) : Nat × Int × Int) ∈ mFixL := by decide +kernel
theorem fx_39_6 : ((39, 6, 46) : Nat × Int × Int) ∈ mFixL := by decide +kernel
theorem fx_47_3 : ((47, 3, 48) : Nat × Int × Int) ∈ mFixL := by decide +kernel
theorem fx_47_6 : ((47, 6, 49) : Nat × Int × Int) ∈ mFixL := by decide +kernel
theorem fx_50_0 : ((50, 0, 23) : Nat × Int × Int) ∈ mFixL := by decide +kernel
theorem fx_50_1 : ((50, 1, 35) : Nat × Int × Int) ∈ mFixL := by decide +kernel
theorem fx_50_2 : ((50, 2, 51) : Nat × Int × Int) ∈ mFixL := by decide +kernel
theorem fx_52_0 : ((52, 0, 23) : Nat × Int × Int) ∈ mFixL := by decide +kernel
theorem fx_52_1 : ((52, 1, 35) : Nat × Int × Int) ∈ mFixL := by decide +kernel
theorem fx_52_2 : ((52, 2, 53) : Nat × Int × Int) ∈ mFixL := by decide +kernel
theorem fx_52_12 : ((52, 12, 54) : Nat × Int × Int) ∈ mFixL := by decide +kernel
theorem fx_55_0 : ((55, 0, 23) : Nat × Int × Int) ∈ mFixL := by decide +kernel
theorem fx_55_1 : ((55, 1, 35) : Nat × Int × Int) ∈ mFixL := by decide +kernel
theorem fx_55_2 : ((55, 2, 56) : Nat × Int × Int) ∈ mFixL := by decide +kernel
theorem fx_55_12 : ((55, 12, 57) : Nat × Int × Int) ∈ mFixL := by decide +kernel
theorem fx_58_0 : ((58, 0, 23) : Nat × Int × Int) ∈ mFixL := by decide +kernel
theorem fx_58_1 : ((58, 1, 35) : Nat × Int × Int) ∈ mFixL := by decide +kernel
theorem fx_58_2 : ((58, 2, 59) : Nat × Int × Int) ∈ mFixL := by decide +kernel
theorem fx_58_3 : ((58, 3, 60) : Nat × Int × Int) ∈ mFixL := by decide +kernel
theorem fx_58_6 : ((58, 6, 63) : Nat × Int × Int) ∈ mFixL := by decide +kernel
theorem fx_58_7 : ((58, 7, 64) : Nat × Int × Int) ∈ mFixL := by decide +kernel
theorem fr_2 : fixRow 2 = true := by decide +kernel
theorem fr_4 : fixRow 4 = true := by decide +kernel
theorem fr_5 : fixRow 5 = true := by decide +kernel
theorem fr_6 : fixRow 6 = true := by decide +kernel
theorem fr_7 : fixRow 7 = true := by decide +kernel
theorem fr_9 : fixRow 9 = true := by decide +kernel
theorem fr_12 : fixRow 12 = true := by decide +kernel
theorem fr_13 : fixRow 13 = true := by decide +kernel
theorem fr_15 : fixRow 15 = true := by decide +kernel
theorem fr_16 : fixRow 16 = true := by decide +kernel
theorem fr_18 : fixRow 18 = true := by decide +kernel
theorem fr_19 : fixRow 19 = true := by decide +kernel
theorem fr_21 : fixRow 21 = true := by decide +kernel
theorem fr_22 : fixRow 22 = true := by decide +kernel
theorem fr_24 : fixRow 24 = true := by decide +kernel
theorem fr_25 : fixRow 25 = true := by decide +kernel
theorem fr_26 : fixRow 26 = true := by decide +kernel
theorem fr_27 : fixRow 27 = true := by decide +kernel
theorem fr_28 : fixRow 28 = true := by decide +kernel
theorem fr_29 : fixRow 29 = true := by decide +kernel
theorem fr_30 : fixRow 30 = true := by decide +kernel
theorem fr_31 : fixRow 31 = true := by decide +kernel
theorem fr_32 : fixRow 32 = true := by decide +kernel
theorem fr_33 : fixRow 33 = true := by decide +kernel
theorem fr_34 : fixRow 34 = true := by decide +kernel
theorem fr_36 : fixRow 36 = true := by decide +kernel
theorem fr_37 : fixRow 37 = true := by decide +kernel
theorem fr_38 : fixRow 38 = true := by decide +kernel
theorem fr_40 : fixRow 40 = true := by decide +kernel
theorem fr_41 : fixRow 41 = true := by decide +kernel
theorem fr_42 : fixRow 42 = true := by decide +kernel
theorem fr_43 : fixRow 43 = true := by decide +kernel
theorem fr_44 : fixRow 44 = true := by decide +kernel
theorem fr_45 : fixRow 45 = true := by decide +kernel
theorem fr_46 : fixRow 46 = true := by decide +kernel
theorem fr_48 : fixRow 48 = true := by decide +kernel
theorem fr_49 : fixRow 49 = true := by decide +kernel
theorem fr_51 : fixRow 51 = true := by decide +kernel
theorem fr_53 : fixRow 53 = true := by decide +kernel
theorem fr_54 : fixRow 54 = true := by decide +kernel
theorem fr_56 : fixRow 56 = true := by decide +kernel
theorem fr_57 : fixRow 57 = true := by decide +kernel
theorem fr_59 : fixRow 59 = true := by decide +kernel
theorem fr_60 : fixRow 60 = true := by decide +kernel
theorem fr_61 : fixRow 61 = true := by decide +kernel
theorem fr_62 : fixRow 62 = true := by decide +kernel
theorem fr_63 : fixRow 63 = true := by decide +kernel
theorem fr_64 : fixRow 64 = true := by decide +kernel
theorem fo_0_11 : fixOK 0 11 = true := by decide +kernel
theorem fo_0_12 : fixOK 0 12 = true := by decide +kernel
theorem fo_1_1 : fixOK 1 1 = true := by decide +kernel
theorem fo_1_2 : fixOK 1 2 = true := by decide +kernel
theorem fo_3_5 : fixOK 3 5 = true := by decide +kernel
theorem fo_3_6 : fixOK 3 6 = true := by decide +kernel
theorem fo_3_7 : fixOK 3 7 = true := by decide +kernel
theorem fo_8_2 : fixOK 8 2 = true := by decide +kernel
theorem fo_11_1 : fixOK 11 1 = true := by decide +kernel
theorem fo_11_3 : fixOK 11 3 = true := by decide +kernel
theorem fo_14_1 : fixOK 14 1 = true := by decide +kernel
theorem fo_14_3 : fixOK 14 3 = true := by decide +kernel
theorem fo_17_1 : fixOK 17 1 = true := by decide +kernel
theorem fo_17_3 : fixOK 17 3 = true := by decide +kernel
theorem fo_20_1 : fixOK 20 1 = true := by decide +kernel
theorem fo_20_3 : fixOK 20 3 = true := by decide +kernel
theorem fo_23_0 : fixOK 23 0 = true := by decide +kernel
theorem fo_23_1 : fixOK 23 1 = true := by decide +kernel
theorem fo_47_0 : fixOK 47 0 = true := by decide +kernel
theorem fo_47_1 : fixOK 47 1 = true := by decide +kernel
theorem fo_47_2 : fixOK 47 2 = true := by decide +kernel
theorem fo_47_4 : fixOK 47 4 = true := by decide +kernel
theorem fo_47_5 : fixOK 47 5 = true := by decide +kernel
theorem fo_50_3 : fixOK 50 3 = true := by decide +kernel
theorem fo_50_4 : fixOK 50 4 = true := by decide +kernel
theorem fo_50_5 : fixOK 50 5 = true := by decide +kernel
theorem fo_50_6 : fixOK 50 6 = true := by decide +kernel
theorem fo_50_7 : fixOK 50 7 = true := by decide +kernel
theorem fo_50_8 : fixOK 50 8 = true := by decide +kernel
theorem fo_50_9 : fixOK 50 9 = true := by decide +kernel
theorem fo_50_10 : fixOK 50 10 = true := by decide +kernel
theorem fo_52_3 : fixOK 52 3 = true := by decide +kernel
theorem fo_52_4 : fixOK 52 4 = true := by decide +kernel
theorem fo_52_5 : fixOK 52 5 = true := by decide +kernel
theorem fo_52_6 : fixOK 52 6 = true := by decide +kernel
theorem fo_52_7 : fixOK 52 7 = true := by decide +kernel
theorem fo_52_8 : fixOK 52 8 = true := by decide +kernel
theorem fo_52_9 : fixOK 52 9 = true := by decide +kernel
theorem fo_52_10 : fixOK 52 10 = true := by decide +kernel
theorem fo_52_11 : fixOK 52 11 = true := by decide +kernel
theorem fo_55_3 : fixOK 55 3 = true := by decide +kernel
theorem fo_55_4 : fixOK 55 4 = true := by decide +kernel
theorem fo_55_5 : fixOK 55 5 = true := by decide +kernel
theorem fo_55_6 : fixOK 55 6 = true := by decide +kernel
theorem fo_55_7 : fixOK 55 7 = true := by decide +kernel
theorem fo_55_8 : fixOK 55 8 = true := by decide +kernel
theorem fo_55_9 : fixOK 55 9 = true := by decide +kernel
theorem fo_55_10 : fixOK 55 10 = true := by decide +kernel
theorem fo_55_11 : fixOK 55 11 = true := by decide +kernel
theorem fo_58_4 : fixOK 58 4 = true := by decide +kernel
theorem fo_58_5 : fixOK 58 5 = true := by decide +kernel
theorem fo_58_8 : fixOK 58 8 = true := by decide +kernel
theorem fo_58_9 : fixOK 58 9 = true := by decide +kernel
