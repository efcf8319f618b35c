section
def keptF (bb : Bool) : Option Nat := if bb then some 112 else none
def pastF : Nat → Option Nat := fun k => if k < 6 then some (57 + 6 * k) else none
def shK : List Shp := [.inr (.inr (0, [some (some 113), some (some 119), some (some 120), some (some 121), some (some 122), some (some 123), none, none, some (some 124), some (some 131), some (some 133), some (some 135), some (some 137), some (some 139), some (some 141), some (some 143), some (some 145), some (some 147), some (some 149), some (some 151)])), .inr (.inr (7, [some (some 114), some (some 115), some (some 116), some (some 117), some (some 118), none, none, none, none])), .inl 12, .inl 8, .inl 8, .inl 8, .inl 8, .inl 12, .inl 12, .inl 12, .inl 8, .inl 8, .inr (.inr (1, [some (some 125), some (some 126), some (some 127), some (some 128), some (some 129), some (some 130), none, none])), .inl 400, .inl 16, .inl 16, .inl 16, .inl 16, .inl 40, .inr (.inr (2, [none, none, some (some 132), none])), .inl 16, .inr (.inr (2, [none, none, some (some 134), none])), .inl 96, .inr (.inr (2, [none, none, some (some 136), none])), .inl 32, .inr (.inr (2, [none, none, some (some 138), none])), .inl 600, .inr (.inr (2, [none, none, some (some 140), none])), .inl 30, .inr (.inr (2, [none, none, some (some 142), none])), .inl 24, .inr (.inr (2, [none, none, some (some 144), none])), .inl 12, .inr (.inr (2, [none, none, some (some 146), none])), .inl 32, .inr (.inr (2, [none, none, some (some 148), none])), .inl 12, .inr (.inr (2, [none, none, some (some 150), none])), .inl 7, .inl 6]
def shC (bb : Bool) : List Shp := [.inr (.inr (9, [some (some 1), some (some 41), some (some 54), some (some 93), some (some 99), some (some 105), some (some 110), some (keptF bb)])), .inr (.inr (0, [some (some 2), some (some 8), some (some 9), some (some 10), some (some 11), some (some 12), none, none, some (some 13), some (some 20), some (some 22), some (some 24), some (some 26), some (some 28), some (some 30), some (some 32), some (some 34), some (some 36), some (some 38), some (some 40)])), .inr (.inr (7, [some (some 3), some (some 4), some (some 5), some (some 6), some (some 7), none, none, none, none])), .inl 12, .inl 8, .inl 8, .inl 8, .inl 8, .inl 12, .inl 12, .inl 12, .inl 8, .inl 8, .inr (.inr (1, [some (some 14), some (some 15), some (some 16), some (some 17), some (some 18), some (some 19), none, none])), .inl 400, .inl 16, .inl 16, .inl 16, .inl 16, .inl 40, .inr (.inr (2, [none, none, some (some 21), none])), .inl 16, .inr (.inr (2, [none, none, some (some 23), none])), .inl 96, .inr (.inr (2, [none, none, some (some 25), none])), .inl 32, .inr (.inr (2, [none, none, some (some 27), none])), .inl 600, .inr (.inr (2, [none, none, some (some 29), none])), .inl 30, .inr (.inr (2, [none, none, some (some 31), none])), .inl 24, .inr (.inr (2, [none, none, some (some 33), none])), .inl 12, .inr (.inr (2, [none, none, some (some 35), none])), .inl 32, .inr (.inr (2, [none, none, some (some 37), none])), .inl 12, .inr (.inr (2, [none, none, some (some 39), none])), .inl 7, .inl 6, .inr (.inr (5, [some (some 42), some (some 43), some (some 44), some (some 45), some (some 52), none, none, none, none, none, none, none, none])), .inl 400, .inl 401, .inl 401, .inr (.inr (1, [some (some 46), some (some 47), some (some 48), some (some 49), some (some 50), some (some 51), none, none])), .inl 400, .inl 16, .inl 16, .inl 16, .inl 16, .inl 40, .inr (.inr (2, [none, none, some (some 53), none])), .inl 96, .inr (.inr (3, [some (some 55), some (some 56), none, none])), .inr (.inl (6, pastF)), .inl 6, .inr (.inr (7, [some (some 58), some (some 59), some (some 60), some (some 61), some (some 62), none, none, none, none])), .inl 12, .inl 8, .inl 8, .inl 8, .inl 8, .inr (.inr (7, [some (some 64), some (some 65), some (some 66), some (some 67), some (some 68), none, none, none, none])), .inl 12, .inl 8, .inl 8, .inl 8, .inl 8, .inr (.inr (7, [some (some 70), some (some 71), some (some 72), some (some 73), some (some 74), none, none, none, none])), .inl 12, .inl 8, .inl 8, .inl 8, .inl 8, .inr (.inr (7, [some (some 76), some (some 77), some (some 78), some (some 79), some (some 80), none, none, none, none])), .inl 12, .inl 8, .inl 8, .inl 8, .inl 8, .inr (.inr (7, [some (some 82), some (some 83), some (some 84), some (some 85), some (some 86), none, none, none, none])), .inl 12, .inl 8, .inl 8, .inl 8, .inl 8, .inr (.inr (7, [some (some 88), some (some 89), some (some 90), some (some 91), some (some 92), none, none, none, none])), .inl 12, .inl 8, .inl 8, .inl 8, .inl 8, .inr (.inr (6, [some (some 1), some (some 94), some (some 95), some (some 96), some (some 97), some (some 98)])), .inl 11, .inl 3, .inl 3, .inl 12, .inl 12, .inr (.inr (7, [some (some 100), some (some 101), some (some 102), some (some 103), some (some 104), none, none, none, none])), .inl 12, .inl 8, .inl 8, .inl 8, .inl 8, .inr (.inr (4, [some (some 106), some (some 107), some (some 108), some (some 109), none, none])), .inl 216, .inl 216, .inl 216, .inl 16, .inr (.inr (8, [some (some 111)])), .inl 10] ++ (if bb then shK else [])
theorem shC_0 {bb : Bool} : (shC bb)[0]? = some (.inr (.inr (9, [some (some 1), some (some 41), some (some 54), some (some 93), some (some 99), some (some 105), some (some 110), some (keptF bb)]))) := rfl
theorem shC_1 {bb : Bool} : (shC bb)[1]? = some (.inr (.inr (0, [some (some 2), some (some 8), some (some 9), some (some 10), some (some 11), some (some 12), none, none, some (some 13), some (some 20), some (some 22), some (some 24), some (some 26), some (some 28), some (some 30), some (some 32), some (some 34), some (some 36), some (some 38), some (some 40)]))) := rfl
theorem shC_2 {bb : Bool} : (shC bb)[2]? = some (.inr (.inr (7, [some (some 3), some (some 4), some (some 5), some (some 6), some (some 7), none, none, none, none]))) := rfl
theorem shC_3 {bb : Bool} : (shC bb)[3]? = some (.inl 12) := rfl
theorem shC_4 {bb : Bool} : (shC bb)[4]? = some (.inl 8) := rfl
theorem shC_5 {bb : Bool} : (shC bb)[5]? = some (.inl 8) := rfl
theorem shC_6 {bb : Bool} : (shC bb)[6]? = some (.inl 8) := rfl
theorem shC_7 {bb : Bool} : (shC bb)[7]? = some (.inl 8) := rfl
theorem shC_8 {bb : Bool} : (shC bb)[8]? = some (.inl 12) := rfl
theorem shC_9 {bb : Bool} : (shC bb)[9]? = some (.inl 12) := rfl
theorem shC_10 {bb : Bool} : (shC bb)[10]? = some (.inl 12) := rfl
theorem shC_11 {bb : Bool} : (shC bb)[11]? = some (.inl 8) := rfl
theorem shC_12 {bb : Bool} : (shC bb)[12]? = some (.inl 8) := rfl
theorem shC_13 {bb : Bool} : (shC bb)[13]? = some (.inr (.inr (1, [some (some 14), some (some 15), some (some 16), some (some 17), some (some 18), some (some 19), none, none]))) := rfl
theorem shC_14 {bb : Bool} : (shC bb)[14]? = some (.inl 400) := rfl
theorem shC_15 {bb : Bool} : (shC bb)[15]? = some (.inl 16) := rfl
theorem shC_16 {bb : Bool} : (shC bb)[16]? = some (.inl 16) := rfl
theorem shC_17 {bb : Bool} : (shC bb)[17]? = some (.inl 16) := rfl
theorem shC_18 {bb : Bool} : (shC bb)[18]? = some (.inl 16) := rfl
theorem shC_19 {bb : Bool} : (shC bb)[19]? = some (.inl 40) := rfl
theorem shC_20 {bb : Bool} : (shC bb)[20]? = some (.inr (.inr (2, [none, none, some (some 21), none]))) := rfl
theorem shC_21 {bb : Bool} : (shC bb)[21]? = some (.inl 16) := rfl
theorem shC_22 {bb : Bool} : (shC bb)[22]? = some (.inr (.inr (2, [none, none, some (some 23), none]))) := rfl
theorem shC_23 {bb : Bool} : (shC bb)[23]? = some (.inl 96) := rfl
theorem shC_24 {bb : Bool} : (shC bb)[24]? = some (.inr (.inr (2, [none, none, some (some 25), none]))) := rfl
theorem shC_25 {bb : Bool} : (shC bb)[25]? = some (.inl 32) := rfl
theorem shC_26 {bb : Bool} : (shC bb)[26]? = some (.inr (.inr (2, [none, none, some (some 27), none]))) := rfl
theorem shC_27 {bb : Bool} : (shC bb)[27]? = some (.inl 600) := rfl
theorem shC_28 {bb : Bool} : (shC bb)[28]? = some (.inr (.inr (2, [none, none, some (some 29), none]))) := rfl
theorem shC_29 {bb : Bool} : (shC bb)[29]? = some (.inl 30) := rfl
theorem shC_30 {bb : Bool} : (shC bb)[30]? = some (.inr (.inr (2, [none, none, some (some 31), none]))) := rfl
theorem shC_31 {bb : Bool} : (shC bb)[31]? = some (.inl 24) := rfl
theorem shC_32 {bb : Bool} : (shC bb)[32]? = some (.inr (.inr (2, [none, none, some (some 33), none]))) := rfl
theorem shC_33 {bb : Bool} : (shC bb)[33]? = some (.inl 12) := rfl
theorem shC_34 {bb : Bool} : (shC bb)[34]? = some (.inr (.inr (2, [none, none, some (some 35), none]))) := rfl
theorem shC_35 {bb : Bool} : (shC bb)[35]? = some (.inl 32) := rfl
theorem shC_36 {bb : Bool} : (shC bb)[36]? = some (.inr (.inr (2, [none, none, some (some 37), none]))) := rfl
theorem shC_37 {bb : Bool} : (shC bb)[37]? = some (.inl 12) := rfl
theorem shC_38 {bb : Bool} : (shC bb)[38]? = some (.inr (.inr (2, [none, none, some (some 39), none]))) := rfl
theorem shC_39 {bb : Bool} : (shC bb)[39]? = some (.inl 7) := rfl
theorem shC_40 {bb : Bool} : (shC bb)[40]? = some (.inl 6) := rfl
theorem shC_41 {bb : Bool} : (shC bb)[41]? = some (.inr (.inr (5, [some (some 42), some (some 43), some (some 44), some (some 45), some (some 52), none, none, none, none, none, none, none, none]))) := rfl
theorem shC_42 {bb : Bool} : (shC bb)[42]? = some (.inl 400) := rfl
theorem shC_43 {bb : Bool} : (shC bb)[43]? = some (.inl 401) := rfl
theorem shC_44 {bb : Bool} : (shC bb)[44]? = some (.inl 401) := rfl
theorem shC_45 {bb : Bool} : (shC bb)[45]? = some (.inr (.inr (1, [some (some 46), some (some 47), some (some 48), some (some 49), some (some 50), some (some 51), none, none]))) := rfl
theorem shC_46 {bb : Bool} : (shC bb)[46]? = some (.inl 400) := rfl
theorem shC_47 {bb : Bool} : (shC bb)[47]? = some (.inl 16) := rfl
theorem shC_48 {bb : Bool} : (shC bb)[48]? = some (.inl 16) := rfl
theorem shC_49 {bb : Bool} : (shC bb)[49]? = some (.inl 16) := rfl
theorem shC_50 {bb : Bool} : (shC bb)[50]? = some (.inl 16) := rfl
theorem shC_51 {bb : Bool} : (shC bb)[51]? = some (.inl 40) := rfl
theorem shC_52 {bb : Bool} : (shC bb)[52]? = some (.inr (.inr (2, [none, none, some (some 53), none]))) := rfl
theorem shC_53 {bb : Bool} : (shC bb)[53]? = some (.inl 96) := rfl
theorem shC_54 {bb : Bool} : (shC bb)[54]? = some (.inr (.inr (3, [some (some 55), some (some 56), none, none]))) := rfl
theorem shC_55 {bb : Bool} : (shC bb)[55]? = some (.inr (.inl (6, pastF))) := rfl
theorem shC_56 {bb : Bool} : (shC bb)[56]? = some (.inl 6) := rfl
theorem shC_57 {bb : Bool} : (shC bb)[57]? = some (.inr (.inr (7, [some (some 58), some (some 59), some (some 60), some (some 61), some (some 62), none, none, none, none]))) := rfl
theorem shC_58 {bb : Bool} : (shC bb)[58]? = some (.inl 12) := rfl
theorem shC_59 {bb : Bool} : (shC bb)[59]? = some (.inl 8) := rfl
theorem shC_60 {bb : Bool} : (shC bb)[60]? = some (.inl 8) := rfl
theorem shC_61 {bb : Bool} : (shC bb)[61]? = some (.inl 8) := rfl
theorem shC_62 {bb : Bool} : (shC bb)[62]? = some (.inl 8) := rfl
theorem shC_63 {bb : Bool} : (shC bb)[63]? = some (.inr (.inr (7, [some (some 64), some (some 65), some (some 66), some (some 67), some (some 68), none, none, none, none]))) := rfl
theorem shC_64 {bb : Bool} : (shC bb)[64]? = some (.inl 12) := rfl
theorem shC_65 {bb : Bool} : (shC bb)[65]? = some (.inl 8) := rfl
theorem shC_66 {bb : Bool} : (shC bb)[66]? = some (.inl 8) := rfl
theorem shC_67 {bb : Bool} : (shC bb)[67]? = some (.inl 8) := rfl
theorem shC_68 {bb : Bool} : (shC bb)[68]? = some (.inl 8) := rfl
theorem shC_69 {bb : Bool} : (shC bb)[69]? = some (.inr (.inr (7, [some (some 70), some (some 71), some (some 72), some (some 73), some (some 74), none, none, none, none]))) := rfl
theorem shC_70 {bb : Bool} : (shC bb)[70]? = some (.inl 12) := rfl
theorem shC_71 {bb : Bool} : (shC bb)[71]? = some (.inl 8) := rfl
theorem shC_72 {bb : Bool} : (shC bb)[72]? = some (.inl 8) := rfl
theorem shC_73 {bb : Bool} : (shC bb)[73]? = some (.inl 8) := rfl
theorem shC_74 {bb : Bool} : (shC bb)[74]? = some (.inl 8) := rfl
theorem shC_75 {bb : Bool} : (shC bb)[75]? = some (.inr (.inr (7, [some (some 76), some (some 77), some (some 78), some (some 79), some (some 80), none, none, none, none]))) := rfl
theorem shC_76 {bb : Bool} : (shC bb)[76]? = some (.inl 12) := rfl
theorem shC_77 {bb : Bool} : (shC bb)[77]? = some (.inl 8) := rfl
theorem shC_78 {bb : Bool} : (shC bb)[78]? = some (.inl 8) := rfl
theorem shC_79 {bb : Bool} : (shC bb)[79]? = some (.inl 8) := rfl
theorem shC_80 {bb : Bool} : (shC bb)[80]? = some (.inl 8) := rfl
theorem shC_81 {bb : Bool} : (shC bb)[81]? = some (.inr (.inr (7, [some (some 82), some (some 83), some (some 84), some (some 85), some (some 86), none, none, none, none]))) := rfl
theorem shC_82 {bb : Bool} : (shC bb)[82]? = some (.inl 12) := rfl
theorem shC_83 {bb : Bool} : (shC bb)[83]? = some (.inl 8) := rfl
theorem shC_84 {bb : Bool} : (shC bb)[84]? = some (.inl 8) := rfl
theorem shC_85 {bb : Bool} : (shC bb)[85]? = some (.inl 8) := rfl
theorem shC_86 {bb : Bool} : (shC bb)[86]? = some (.inl 8) := rfl
theorem shC_87 {bb : Bool} : (shC bb)[87]? = some (.inr (.inr (7, [some (some 88), some (some 89), some (some 90), some (some 91), some (some 92), none, none, none, none]))) := rfl
theorem shC_88 {bb : Bool} : (shC bb)[88]? = some (.inl 12) := rfl
theorem shC_89 {bb : Bool} : (shC bb)[89]? = some (.inl 8) := rfl
theorem shC_90 {bb : Bool} : (shC bb)[90]? = some (.inl 8) := rfl
theorem shC_91 {bb : Bool} : (shC bb)[91]? = some (.inl 8) := rfl
theorem shC_92 {bb : Bool} : (shC bb)[92]? = some (.inl 8) := rfl
theorem shC_93 {bb : Bool} : (shC bb)[93]? = some (.inr (.inr (6, [some (some 1), some (some 94), some (some 95), some (some 96), some (some 97), some (some 98)]))) := rfl
theorem shC_94 {bb : Bool} : (shC bb)[94]? = some (.inl 11) := rfl
theorem shC_95 {bb : Bool} : (shC bb)[95]? = some (.inl 3) := rfl
theorem shC_96 {bb : Bool} : (shC bb)[96]? = some (.inl 3) := rfl
theorem shC_97 {bb : Bool} : (shC bb)[97]? = some (.inl 12) := rfl
theorem shC_98 {bb : Bool} : (shC bb)[98]? = some (.inl 12) := rfl
theorem shC_99 {bb : Bool} : (shC bb)[99]? = some (.inr (.inr (7, [some (some 100), some (some 101), some (some 102), some (some 103), some (some 104), none, none, none, none]))) := rfl
theorem shC_100 {bb : Bool} : (shC bb)[100]? = some (.inl 12) := rfl
theorem shC_101 {bb : Bool} : (shC bb)[101]? = some (.inl 8) := rfl
theorem shC_102 {bb : Bool} : (shC bb)[102]? = some (.inl 8) := rfl
theorem shC_103 {bb : Bool} : (shC bb)[103]? = some (.inl 8) := rfl
theorem shC_104 {bb : Bool} : (shC bb)[104]? = some (.inl 8) := rfl
theorem shC_105 {bb : Bool} : (shC bb)[105]? = some (.inr (.inr (4, [some (some 106), some (some 107), some (some 108), some (some 109), none, none]))) := rfl
theorem shC_106 {bb : Bool} : (shC bb)[106]? = some (.inl 216) := rfl
theorem shC_107 {bb : Bool} : (shC bb)[107]? = some (.inl 216) := rfl
theorem shC_108 {bb : Bool} : (shC bb)[108]? = some (.inl 216) := rfl
theorem shC_109 {bb : Bool} : (shC bb)[109]? = some (.inl 16) := rfl
theorem shC_110 {bb : Bool} : (shC bb)[110]? = some (.inr (.inr (8, [some (some 111)]))) := rfl
theorem shC_111 {bb : Bool} : (shC bb)[111]? = some (.inl 10) := rfl
def shR : List Shp := [.inr (.inr (10, [none, some (some 1), some (some 2), none, some (some 3), none, none, none, some (some 4), some (some 5), some (some 6), some (some 7), some (some 8), some (some 9), some (some 10), none, none, none, none, none, some (some 11), some (some 12), some (some 13), some (some 14), some (some 15), some (some 16), some (some 17), some (some 18), none, none, none, some (some 19), none, none, none, none, none, none, some (some 20), none, some (some 21), none, some (some 22), some (some 23), some (some 24), some (some 25), some (some 26), none, some (some 27), some (some 28), some (some 29), none, some (some 30), some (some 31), some (some 32), none, some (some 33), none, some (some 34), some (some 35), none, some (some 36), some (some 37), some (some 38), none, some (some 39), some (some 40), some (some 41), none, some (some 42), some (some 43), some (some 44), none, none, none, some (some 45)])), .inl 49, .inl 294, .inl 49, .inl 12, .inl 12, .inl 12, .inl 8, .inl 8, .inl 600, .inl 400, .inl 132, .inl 2, .inl 48, .inl 48, .inl 48, .inl 48, .inl 1200, .inl 1200, .inl 40, .inl 32, .inl 192, .inl 24, .inl 11, .inl 420, .inl 3, .inl 3, .inl 10, .inl 10, .inl 10, .inl 8, .inl 8, .inl 16, .inl 216, .inl 6, .inl 6, .inl 10, .inl 400, .inl 20, .inl 12, .inl 3, .inl 3, .inl 7, .inl 7, .inl 7, .inl 2300]
theorem shR_0 : shR[0]? = some (.inr (.inr (10, [none, some (some 1), some (some 2), none, some (some 3), none, none, none, some (some 4), some (some 5), some (some 6), some (some 7), some (some 8), some (some 9), some (some 10), none, none, none, none, none, some (some 11), some (some 12), some (some 13), some (some 14), some (some 15), some (some 16), some (some 17), some (some 18), none, none, none, some (some 19), none, none, none, none, none, none, some (some 20), none, some (some 21), none, some (some 22), some (some 23), some (some 24), some (some 25), some (some 26), none, some (some 27), some (some 28), some (some 29), none, some (some 30), some (some 31), some (some 32), none, some (some 33), none, some (some 34), some (some 35), none, some (some 36), some (some 37), some (some 38), none, some (some 39), some (some 40), some (some 41), none, some (some 42), some (some 43), some (some 44), none, none, none, some (some 45)]))) := rfl
theorem shR_1 : shR[1]? = some (.inl 49) := rfl
theorem shR_2 : shR[2]? = some (.inl 294) := rfl
theorem shR_3 : shR[3]? = some (.inl 49) := rfl
theorem shR_4 : shR[4]? = some (.inl 12) := rfl
theorem shR_5 : shR[5]? = some (.inl 12) := rfl
theorem shR_6 : shR[6]? = some (.inl 12) := rfl
theorem shR_7 : shR[7]? = some (.inl 8) := rfl
theorem shR_8 : shR[8]? = some (.inl 8) := rfl
theorem shR_9 : shR[9]? = some (.inl 600) := rfl
theorem shR_10 : shR[10]? = some (.inl 400) := rfl
theorem shR_11 : shR[11]? = some (.inl 132) := rfl
theorem shR_12 : shR[12]? = some (.inl 2) := rfl
theorem shR_13 : shR[13]? = some (.inl 48) := rfl
theorem shR_14 : shR[14]? = some (.inl 48) := rfl
theorem shR_15 : shR[15]? = some (.inl 48) := rfl
theorem shR_16 : shR[16]? = some (.inl 48) := rfl
theorem shR_17 : shR[17]? = some (.inl 1200) := rfl
theorem shR_18 : shR[18]? = some (.inl 1200) := rfl
theorem shR_19 : shR[19]? = some (.inl 40) := rfl
theorem shR_20 : shR[20]? = some (.inl 32) := rfl
theorem shR_21 : shR[21]? = some (.inl 192) := rfl
theorem shR_22 : shR[22]? = some (.inl 24) := rfl
theorem shR_23 : shR[23]? = some (.inl 11) := rfl
theorem shR_24 : shR[24]? = some (.inl 420) := rfl
theorem shR_25 : shR[25]? = some (.inl 3) := rfl
theorem shR_26 : shR[26]? = some (.inl 3) := rfl
theorem shR_27 : shR[27]? = some (.inl 10) := rfl
theorem shR_28 : shR[28]? = some (.inl 10) := rfl
theorem shR_29 : shR[29]? = some (.inl 10) := rfl
theorem shR_30 : shR[30]? = some (.inl 8) := rfl
theorem shR_31 : shR[31]? = some (.inl 8) := rfl
theorem shR_32 : shR[32]? = some (.inl 16) := rfl
theorem shR_33 : shR[33]? = some (.inl 216) := rfl
theorem shR_34 : shR[34]? = some (.inl 6) := rfl
theorem shR_35 : shR[35]? = some (.inl 6) := rfl
theorem shR_36 : shR[36]? = some (.inl 10) := rfl
theorem shR_37 : shR[37]? = some (.inl 400) := rfl
theorem shR_38 : shR[38]? = some (.inl 20) := rfl
theorem shR_39 : shR[39]? = some (.inl 12) := rfl
theorem shR_40 : shR[40]? = some (.inl 3) := rfl
theorem shR_41 : shR[41]? = some (.inl 3) := rfl
theorem shR_42 : shR[42]? = some (.inl 7) := rfl
theorem shR_43 : shR[43]? = some (.inl 7) := rfl
theorem shR_44 : shR[44]? = some (.inl 7) := rfl
theorem shR_45 : shR[45]? = some (.inl 2300) := rfl
def At_X8 (sh : List Shp) (a : Nat) : Prop := sh[a]? = some (.inr (.inr (7, [some (some (a + 1)), some (some (a + 2)), some (some (a + 3)), some (some (a + 4)), some (some (a + 5)), none, none, none, none]))) ∧ sh[a + 1]? = some (.inl 12) ∧ sh[a + 2]? = some (.inl 8) ∧ sh[a + 3]? = some (.inl 8) ∧ sh[a + 4]? = some (.inl 8) ∧ sh[a + 5]? = some (.inl 8)
def At_X1 (sh : List Shp) (a : Nat) : Prop := sh[a]? = some (.inr (.inr (1, [some (some (a + 1)), some (some (a + 2)), some (some (a + 3)), some (some (a + 4)), some (some (a + 5)), some (some (a + 6)), none, none]))) ∧ sh[a + 1]? = some (.inl 400) ∧ sh[a + 2]? = some (.inl 16) ∧ sh[a + 3]? = some (.inl 16) ∧ sh[a + 4]? = some (.inl 16) ∧ sh[a + 5]? = some (.inl 16) ∧ sh[a + 6]? = some (.inl 40)
def At_X2 (sh : List Shp) (a n : Nat) : Prop := sh[a]? = some (.inr (.inr (2, [none, none, some (some (a + 1)), none]))) ∧ sh[a + 1]? = some (.inl n)
def At_X0 (sh : List Shp) (a : Nat) : Prop := sh[a]? = some (.inr (.inr (0, [some (some (a + 1)), some (some (a + 7)), some (some (a + 8)), some (some (a + 9)), some (some (a + 10)), some (some (a + 11)), none, none, some (some (a + 12)), some (some (a + 19)), some (some (a + 21)), some (some (a + 23)), some (some (a + 25)), some (some (a + 27)), some (some (a + 29)), some (some (a + 31)), some (some (a + 33)), some (some (a + 35)), some (some (a + 37)), some (some (a + 39))]))) ∧ At_X8 sh (a + 1) ∧ sh[a + 7]? = some (.inl 12) ∧ sh[a + 8]? = some (.inl 12) ∧ sh[a + 9]? = some (.inl 12) ∧ sh[a + 10]? = some (.inl 8) ∧ sh[a + 11]? = some (.inl 8) ∧ At_X1 sh (a + 12) ∧ At_X2 sh (a + 19) 16 ∧ At_X2 sh (a + 21) 96 ∧ At_X2 sh (a + 23) 32 ∧ At_X2 sh (a + 25) 600 ∧ At_X2 sh (a + 27) 30 ∧ At_X2 sh (a + 29) 24 ∧ At_X2 sh (a + 31) 12 ∧ At_X2 sh (a + 33) 32 ∧ At_X2 sh (a + 35) 12 ∧ At_X2 sh (a + 37) 7 ∧ sh[a + 39]? = some (.inl 6)
theorem atC_2 {bb : Bool} : At_X8 (shC bb) 2 := ⟨rfl, rfl, rfl, rfl, rfl, rfl⟩
theorem atC_57 {bb : Bool} : At_X8 (shC bb) 57 := ⟨rfl, rfl, rfl, rfl, rfl, rfl⟩
theorem atC_63 {bb : Bool} : At_X8 (shC bb) 63 := ⟨rfl, rfl, rfl, rfl, rfl, rfl⟩
theorem atC_69 {bb : Bool} : At_X8 (shC bb) 69 := ⟨rfl, rfl, rfl, rfl, rfl, rfl⟩
theorem atC_75 {bb : Bool} : At_X8 (shC bb) 75 := ⟨rfl, rfl, rfl, rfl, rfl, rfl⟩
theorem atC_81 {bb : Bool} : At_X8 (shC bb) 81 := ⟨rfl, rfl, rfl, rfl, rfl, rfl⟩
theorem atC_87 {bb : Bool} : At_X8 (shC bb) 87 := ⟨rfl, rfl, rfl, rfl, rfl, rfl⟩
theorem atC_99 {bb : Bool} : At_X8 (shC bb) 99 := ⟨rfl, rfl, rfl, rfl, rfl, rfl⟩
theorem atC_13 {bb : Bool} : At_X1 (shC bb) 13 := ⟨rfl, rfl, rfl, rfl, rfl, rfl, rfl⟩
theorem atC_45 {bb : Bool} : At_X1 (shC bb) 45 := ⟨rfl, rfl, rfl, rfl, rfl, rfl, rfl⟩
theorem atC_20 {bb : Bool} : At_X2 (shC bb) 20 16 := ⟨rfl, rfl⟩
theorem atC_22 {bb : Bool} : At_X2 (shC bb) 22 96 := ⟨rfl, rfl⟩
theorem atC_24 {bb : Bool} : At_X2 (shC bb) 24 32 := ⟨rfl, rfl⟩
theorem atC_26 {bb : Bool} : At_X2 (shC bb) 26 600 := ⟨rfl, rfl⟩
theorem atC_28 {bb : Bool} : At_X2 (shC bb) 28 30 := ⟨rfl, rfl⟩
theorem atC_30 {bb : Bool} : At_X2 (shC bb) 30 24 := ⟨rfl, rfl⟩
theorem atC_32 {bb : Bool} : At_X2 (shC bb) 32 12 := ⟨rfl, rfl⟩
theorem atC_34 {bb : Bool} : At_X2 (shC bb) 34 32 := ⟨rfl, rfl⟩
theorem atC_36 {bb : Bool} : At_X2 (shC bb) 36 12 := ⟨rfl, rfl⟩
theorem atC_38 {bb : Bool} : At_X2 (shC bb) 38 7 := ⟨rfl, rfl⟩
theorem atC_52 {bb : Bool} : At_X2 (shC bb) 52 96 := ⟨rfl, rfl⟩
theorem atC_1 {bb : Bool} : At_X0 (shC bb) 1 := ⟨rfl, ⟨rfl, rfl, rfl, rfl, rfl, rfl⟩, rfl, rfl, rfl, rfl, rfl, ⟨rfl, rfl, rfl, rfl, rfl, rfl, rfl⟩, ⟨rfl, rfl⟩, ⟨rfl, rfl⟩, ⟨rfl, rfl⟩, ⟨rfl, rfl⟩, ⟨rfl, rfl⟩, ⟨rfl, rfl⟩, ⟨rfl, rfl⟩, ⟨rfl, rfl⟩, ⟨rfl, rfl⟩, ⟨rfl, rfl⟩, rfl⟩
theorem atK_112 : At_X0 (shC true) 112 := ⟨rfl, ⟨rfl, rfl, rfl, rfl, rfl, rfl⟩, rfl, rfl, rfl, rfl, rfl, ⟨rfl, rfl, rfl, rfl, rfl, rfl, rfl⟩, ⟨rfl, rfl⟩, ⟨rfl, rfl⟩, ⟨rfl, rfl⟩, ⟨rfl, rfl⟩, ⟨rfl, rfl⟩, ⟨rfl, rfl⟩, ⟨rfl, rfl⟩, ⟨rfl, rfl⟩, ⟨rfl, rfl⟩, ⟨rfl, rfl⟩, rfl⟩
end
