/-! the methods as blocks -/
def bJ13_bitCount_95d88_0 : List In := [(0, 5, 0, 1, 0, []), (1, 5, 0, 1, 0, []), (2, 1, 1, 0, 0, []), (3, 31, 0, 0, 0, []), (4, 2, 6148914691236517205, 1, 0, [314, 5108]), (7, 26, 0, 0, 0, []), (8, 24, 0, 0, 0, []), (9, 8, 0, 1, 0, []), (10, 5, 0, 1, 0, []), (11, 2, 3689348814741910323, 1, 0, [316, 5109]), (14, 26, 0, 0, 0, []), (15, 5, 0, 1, 0, []), (16, 1, 2, 0, 0, []), (17, 31, 0, 0, 0, []), (18, 2, 3689348814741910323, 1, 0, [316, 5109]), (21, 26, 0, 0, 0, []), (22, 23, 0, 0, 0, []), (23, 8, 0, 1, 0, []), (24, 5, 0, 1, 0, []), (25, 5, 0, 1, 0, []), (26, 1, 4, 0, 0, []), (27, 31, 0, 0, 0, []), (28, 23, 0, 0, 0, []), (29, 2, 1085102592571150095, 1, 0, [318, 5110]), (32, 26, 0, 0, 0, []), (33, 8, 0, 1, 0, []), (34, 5, 0, 1, 0, []), (35, 5, 0, 1, 0, []), (36, 1, 8, 1, 0, []), (38, 31, 0, 0, 0, []), (39, 23, 0, 0, 0, []), (40, 8, 0, 1, 0, []), (41, 5, 0, 1, 0, []), (42, 5, 0, 1, 0, []), (43, 1, 16, 1, 0, []), (45, 31, 0, 0, 0, []), (46, 23, 0, 0, 0, []), (47, 8, 0, 1, 0, []), (48, 5, 0, 1, 0, []), (49, 5, 0, 1, 0, []), (50, 1, 32, 1, 0, []), (52, 31, 0, 0, 0, []), (53, 23, 0, 0, 0, []), (54, 8, 0, 1, 0, []), (55, 5, 0, 1, 0, []), (56, 33, 0, 0, 0, []), (57, 1, 127, 1, 0, []), (59, 17, 0, 0, 0, []), (60, 60, 0, 0, 0, [])]
def BJ13_bitCount_95d88 : List (List In) := [bJ13_bitCount_95d88_0]
set_option maxRecDepth 100000 in
theorem mkJ13_bitCount_95d88 : MkB 0 BJ13_bitCount_95d88 := MkB_of (by decide +kernel)
theorem lJ13_bitCount_95d88 : (sgD 0).2.2.1 = 2 := rfl
theorem eJ13_bitCount_95d88_0 : BJ13_bitCount_95d88.getD 0 [] = bJ13_bitCount_95d88_0 := rfl
def bJ6_bitCount_0f7a4_0 : List In := [(0, 4, 0, 1, 0, []), (1, 4, 0, 1, 0, []), (2, 1, 1, 0, 0, []), (3, 22, 0, 0, 0, []), (4, 1, 1431655765, 4, 0, [265, 5069]), (7, 17, 0, 0, 0, []), (8, 12, 0, 0, 0, []), (9, 7, 0, 1, 0, []), (10, 4, 0, 1, 0, []), (11, 1, 858993459, 4, 0, [266, 5070]), (14, 17, 0, 0, 0, []), (15, 4, 0, 1, 0, []), (16, 1, 2, 0, 0, []), (17, 22, 0, 0, 0, []), (18, 1, 858993459, 4, 0, [266, 5070]), (21, 17, 0, 0, 0, []), (22, 11, 0, 0, 0, []), (23, 7, 0, 1, 0, []), (24, 4, 0, 1, 0, []), (25, 4, 0, 1, 0, []), (26, 1, 4, 0, 0, []), (27, 22, 0, 0, 0, []), (28, 11, 0, 0, 0, []), (29, 1, 252645135, 4, 0, [267, 5071]), (32, 17, 0, 0, 0, []), (33, 7, 0, 1, 0, []), (34, 4, 0, 1, 0, []), (35, 4, 0, 1, 0, []), (36, 1, 8, 1, 0, []), (38, 22, 0, 0, 0, []), (39, 11, 0, 0, 0, []), (40, 7, 0, 1, 0, []), (41, 4, 0, 1, 0, []), (42, 4, 0, 1, 0, []), (43, 1, 16, 1, 0, []), (45, 22, 0, 0, 0, []), (46, 11, 0, 0, 0, []), (47, 7, 0, 1, 0, []), (48, 4, 0, 1, 0, []), (49, 1, 63, 1, 0, []), (51, 17, 0, 0, 0, []), (52, 60, 0, 0, 0, [])]
def BJ6_bitCount_0f7a4 : List (List In) := [bJ6_bitCount_0f7a4_0]
set_option maxRecDepth 100000 in
theorem mkJ6_bitCount_0f7a4 : MkB 1 BJ6_bitCount_0f7a4 := MkB_of (by decide +kernel)
theorem lJ6_bitCount_0f7a4 : (sgD 1).2.2.1 = 1 := rfl
theorem eJ6_bitCount_0f7a4_0 : BJ6_bitCount_0f7a4.getD 0 [] = bJ6_bitCount_0f7a4_0 := rfl
def bX0_clear_0 : List In := [(0, 6, 0, 1, 0, []), (1, 2, 0, 0, 0, []), (2, 43, 3, 0, 0, [80, 2022]), (5, 6, 0, 1, 0, []), (6, 2, 0, 0, 0, []), (7, 43, 4, 0, 0, [83, 2023]), (10, 6, 0, 1, 0, []), (11, 40, 10, 0, 0, [721682921, 24, 2032]), (14, 1, 0, 0, 0, []), (15, 1, -1, 0, 0, []), (16, 50, 0, 0, 0, []), (17, 1, 0, 0, 0, []), (18, 7, 0, 1, 1, []), (19, 58, 0, 0, 1001, [])]
def bX0_clear_1 : List In := [(19, 4, 0, 1, 1, []), (20, 6, 0, 1, 0, []), (21, 39, 0, 0, 0, [33685536, 42, 2019]), (24, 37, 11, 0, 4, [57, 1094]), (27, 56, 3, 0, 2, []), (30, 6, 0, 1, 0, []), (31, 40, 6, 0, 0, [654574049, 9, 2025]), (34, 4, 0, 1, 1, []), (35, 1, -6, 1, 0, []), (37, 50, 0, 0, 0, []), (38, 6, 0, 1, 0, []), (39, 40, 7, 0, 0, [671351265, 15, 2027]), (42, 4, 0, 1, 1, []), (43, 1, -1, 0, 0, []), (44, 50, 0, 0, 0, []), (45, 6, 0, 1, 0, []), (46, 40, 8, 0, 0, [688128481, 18, 2029]), (49, 4, 0, 1, 1, []), (50, 1, -1, 0, 0, []), (51, 50, 0, 0, 0, []), (52, 6, 0, 1, 0, []), (53, 40, 9, 0, 0, [704905697, 21, 2031]), (56, 4, 0, 1, 1, []), (57, 1, -1, 0, 0, []), (58, 50, 0, 0, 0, []), (59, 6, 0, 1, 0, []), (60, 40, 10, 0, 0, [721682921, 24, 2032]), (63, 4, 0, 1, 1, []), (64, 1, 1, 0, 0, []), (65, 11, 0, 0, 0, []), (66, 1, -1, 0, 0, []), (67, 50, 0, 0, 0, []), (68, 6, 0, 1, 0, []), (69, 40, 11, 0, 0, [738460129, 27, 2033]), (72, 4, 0, 1, 1, []), (73, 1, -1, 0, 0, []), (74, 50, 0, 0, 0, []), (75, 6, 0, 1, 0, []), (76, 40, 13, 0, 0, [772014561, 33, 2037]), (79, 4, 0, 1, 1, []), (80, 1, 0, 0, 0, []), (81, 50, 0, 0, 0, []), (82, 6, 0, 1, 0, []), (83, 40, 14, 0, 0, [788791777, 36, 2040]), (86, 4, 0, 1, 1, []), (87, 1, -1, 0, 0, []), (88, 50, 0, 0, 0, []), (89, 10, 1, 0, 1, []), (92, 57, 0, 0, 1001, [])]
def bX0_clear_2 : List In := [(95, 64, 0, 0, 0, [])]
def BX0_clear : List (List In) := [bX0_clear_0, bX0_clear_1, bX0_clear_2]
set_option maxRecDepth 100000 in
theorem mkX0_clear : MkB 4 BX0_clear := MkB_of (by decide +kernel)
theorem lX0_clear : (sgD 4).2.2.1 = 2 := rfl
theorem eX0_clear_0 : BX0_clear.getD 0 [] = bX0_clear_0 := rfl
theorem eX0_clear_1 : BX0_clear.getD 1 [] = bX0_clear_1 := rfl
theorem eX0_clear_2 : BX0_clear.getD 2 [] = bX0_clear_2 := rfl
def bX0_countsBeside_0 : List In := [(0, 6, 0, 1, 0, []), (1, 39, 0, 0, 0, [33685536, 42, 2019]), (4, 39, 0, 0, 4, [235012577, 86, 1061]), (7, 4, 0, 1, 2, []), (8, 45, 0, 0, 0, []), (9, 7, 0, 1, 3, []), (10, 4, 0, 1, 1, []), (11, 1, 1, 0, 0, []), (12, 56, 0, 0, 3, []), (15, 4, 0, 1, 3, []), (16, 4, 0, 1, 1, []), (17, 56, 1, 0, 1, []), (20, 6, 0, 1, 0, []), (21, 40, 6, 0, 0, [654574049, 9, 2025]), (24, 4, 0, 1, 2, []), (25, 45, 0, 0, 0, []), (26, 55, 1, 0, 1, []), (29, 1, 1, 0, 0, []), (30, 57, 0, 0, 2, [])]
def bX0_countsBeside_1 : List In := [(33, 1, 0, 0, 0, []), (34, 58, 0, 0, 2, [])]
def bX0_countsBeside_2 : List In := [(34, 61, 0, 0, 0, [])]
def bX0_countsBeside_3 : List In := [(35, 4, 0, 1, 3, []), (36, 1, 1, 0, 0, []), (37, 56, 0, 0, 4, []), (40, 4, 0, 1, 3, []), (41, 1, 6, 1, 0, []), (43, 56, 1, 0, 5, []), (46, 58, 0, 0, 4, [])]
def bX0_countsBeside_4 : List In := [(46, 1, 1, 0, 0, []), (47, 61, 0, 0, 0, [])]
def bX0_countsBeside_5 : List In := [(48, 6, 0, 1, 0, []), (49, 37, 2, 0, 0, [50, 2021]), (52, 55, 1, 0, 7, []), (55, 4, 0, 1, 3, []), (56, 1, 2, 0, 0, []), (57, 56, 0, 0, 6, []), (60, 4, 0, 1, 3, []), (61, 1, 3, 0, 0, []), (62, 56, 1, 0, 7, []), (65, 58, 0, 0, 6, [])]
def bX0_countsBeside_6 : List In := [(65, 6, 0, 1, 0, []), (66, 40, 6, 0, 0, [654574049, 9, 2025]), (69, 4, 0, 1, 2, []), (70, 45, 0, 0, 0, []), (71, 55, 1, 0, 7, []), (74, 1, 1, 0, 0, []), (75, 57, 0, 0, 8, [])]
def bX0_countsBeside_7 : List In := [(78, 1, 0, 0, 0, []), (79, 58, 0, 0, 8, [])]
def bX0_countsBeside_8 : List In := [(79, 61, 0, 0, 0, [])]
def BX0_countsBeside : List (List In) := [bX0_countsBeside_0, bX0_countsBeside_1, bX0_countsBeside_2, bX0_countsBeside_3, bX0_countsBeside_4, bX0_countsBeside_5, bX0_countsBeside_6, bX0_countsBeside_7, bX0_countsBeside_8]
set_option maxRecDepth 100000 in
theorem mkX0_countsBeside : MkB 5 BX0_countsBeside := MkB_of (by decide +kernel)
theorem lX0_countsBeside : (sgD 5).2.2.1 = 4 := rfl
theorem eX0_countsBeside_0 : BX0_countsBeside.getD 0 [] = bX0_countsBeside_0 := rfl
theorem eX0_countsBeside_1 : BX0_countsBeside.getD 1 [] = bX0_countsBeside_1 := rfl
theorem eX0_countsBeside_2 : BX0_countsBeside.getD 2 [] = bX0_countsBeside_2 := rfl
theorem eX0_countsBeside_3 : BX0_countsBeside.getD 3 [] = bX0_countsBeside_3 := rfl
theorem eX0_countsBeside_4 : BX0_countsBeside.getD 4 [] = bX0_countsBeside_4 := rfl
theorem eX0_countsBeside_5 : BX0_countsBeside.getD 5 [] = bX0_countsBeside_5 := rfl
theorem eX0_countsBeside_6 : BX0_countsBeside.getD 6 [] = bX0_countsBeside_6 := rfl
theorem eX0_countsBeside_7 : BX0_countsBeside.getD 7 [] = bX0_countsBeside_7 := rfl
theorem eX0_countsBeside_8 : BX0_countsBeside.getD 8 [] = bX0_countsBeside_8 := rfl
def bX0_isWithin_0 : List In := [(0, 4, 0, 1, 1, []), (1, 7, 0, 1, 3, []), (2, 1, 0, 0, 0, []), (3, 7, 0, 0, 4, []), (5, 58, 0, 0, 1001, [])]
def bX0_isWithin_1 : List In := [(5, 4, 0, 0, 4, []), (7, 1, 60, 1, 0, []), (9, 56, 4, 0, 3, []), (12, 4, 0, 1, 3, []), (13, 1, -1, 0, 0, []), (14, 56, 0, 0, 3, []), (17, 4, 0, 1, 3, []), (18, 4, 0, 1, 2, []), (19, 56, 1, 0, 2, []), (22, 1, 1, 0, 0, []), (23, 61, 0, 0, 0, [])]
def bX0_isWithin_2 : List In := [(24, 6, 0, 1, 0, []), (25, 40, 7, 0, 0, [671351265, 15, 2027]), (28, 4, 0, 1, 3, []), (29, 45, 0, 0, 0, []), (30, 7, 0, 1, 3, []), (31, 10, 1, 0, 4, []), (34, 57, 0, 0, 1001, [])]
def bX0_isWithin_3 : List In := [(37, 4, 0, 1, 2, []), (38, 1, -1, 0, 0, []), (39, 56, 1, 0, 4, []), (42, 1, 1, 0, 0, []), (43, 57, 0, 0, 5, [])]
def bX0_isWithin_4 : List In := [(46, 1, 0, 0, 0, []), (47, 58, 0, 0, 5, [])]
def bX0_isWithin_5 : List In := [(47, 61, 0, 0, 0, [])]
def BX0_isWithin : List (List In) := [bX0_isWithin_0, bX0_isWithin_1, bX0_isWithin_2, bX0_isWithin_3, bX0_isWithin_4, bX0_isWithin_5]
set_option maxRecDepth 100000 in
theorem mkX0_isWithin : MkB 6 BX0_isWithin := MkB_of (by decide +kernel)
theorem lX0_isWithin : (sgD 6).2.2.1 = 5 := rfl
theorem eX0_isWithin_0 : BX0_isWithin.getD 0 [] = bX0_isWithin_0 := rfl
theorem eX0_isWithin_1 : BX0_isWithin.getD 1 [] = bX0_isWithin_1 := rfl
theorem eX0_isWithin_2 : BX0_isWithin.getD 2 [] = bX0_isWithin_2 := rfl
theorem eX0_isWithin_3 : BX0_isWithin.getD 3 [] = bX0_isWithin_3 := rfl
theorem eX0_isWithin_4 : BX0_isWithin.getD 4 [] = bX0_isWithin_4 := rfl
theorem eX0_isWithin_5 : BX0_isWithin.getD 5 [] = bX0_isWithin_5 := rfl
def bX0_lastIn_0 : List In := [(0, 1, -1, 0, 0, []), (1, 7, 0, 1, 2, []), (2, 6, 0, 1, 0, []), (3, 40, 10, 0, 0, [721682921, 24, 2032]), (6, 4, 0, 1, 1, []), (7, 1, 1, 0, 0, []), (8, 11, 0, 0, 0, []), (9, 45, 0, 0, 0, []), (10, 7, 0, 1, 3, []), (11, 1, 0, 0, 0, []), (12, 7, 0, 0, 4, []), (14, 58, 0, 0, 1001, [])]
def bX0_lastIn_1 : List In := [(14, 4, 0, 0, 4, []), (16, 1, 60, 1, 0, []), (18, 56, 3, 0, 2, []), (21, 4, 0, 1, 3, []), (22, 1, -1, 0, 0, []), (23, 56, 0, 0, 2, []), (26, 4, 0, 1, 3, []), (27, 7, 0, 1, 2, []), (28, 6, 0, 1, 0, []), (29, 40, 9, 0, 0, [704905697, 21, 2031]), (32, 4, 0, 1, 3, []), (33, 45, 0, 0, 0, []), (34, 7, 0, 1, 3, []), (35, 10, 1, 0, 4, []), (38, 57, 0, 0, 1001, [])]
def bX0_lastIn_2 : List In := [(41, 4, 0, 1, 2, []), (42, 60, 0, 0, 0, [])]
def BX0_lastIn : List (List In) := [bX0_lastIn_0, bX0_lastIn_1, bX0_lastIn_2]
set_option maxRecDepth 100000 in
theorem mkX0_lastIn : MkB 7 BX0_lastIn := MkB_of (by decide +kernel)
theorem lX0_lastIn : (sgD 7).2.2.1 = 5 := rfl
theorem eX0_lastIn_0 : BX0_lastIn.getD 0 [] = bX0_lastIn_0 := rfl
theorem eX0_lastIn_1 : BX0_lastIn.getD 1 [] = bX0_lastIn_1 := rfl
theorem eX0_lastIn_2 : BX0_lastIn.getD 2 [] = bX0_lastIn_2 := rfl
def bX0_nextOutside_0 : List In := [(0, 4, 0, 1, 1, []), (1, 7, 0, 1, 2, []), (2, 1, 0, 0, 0, []), (3, 7, 0, 1, 3, []), (4, 58, 0, 0, 1001, [])]
def bX0_nextOutside_1 : List In := [(4, 4, 0, 1, 3, []), (5, 1, 60, 1, 0, []), (7, 56, 3, 0, 3, []), (10, 4, 0, 1, 2, []), (11, 1, -1, 0, 0, []), (12, 56, 0, 0, 3, []), (15, 6, 0, 1, 0, []), (16, 40, 9, 0, 0, [704905697, 21, 2031]), (19, 4, 0, 1, 2, []), (20, 45, 0, 0, 0, []), (21, 1, -1, 0, 0, []), (22, 56, 0, 0, 2, []), (25, 6, 0, 1, 0, []), (26, 40, 9, 0, 0, [704905697, 21, 2031]), (29, 4, 0, 1, 2, []), (30, 45, 0, 0, 0, []), (31, 60, 0, 0, 0, [])]
def bX0_nextOutside_2 : List In := [(32, 6, 0, 1, 0, []), (33, 40, 7, 0, 0, [671351265, 15, 2027]), (36, 4, 0, 1, 2, []), (37, 45, 0, 0, 0, []), (38, 7, 0, 1, 2, []), (39, 10, 1, 0, 3, []), (42, 57, 0, 0, 1001, [])]
def bX0_nextOutside_3 : List In := [(45, 1, -1, 0, 0, []), (46, 60, 0, 0, 0, [])]
def BX0_nextOutside : List (List In) := [bX0_nextOutside_0, bX0_nextOutside_1, bX0_nextOutside_2, bX0_nextOutside_3]
set_option maxRecDepth 100000 in
theorem mkX0_nextOutside : MkB 8 BX0_nextOutside := MkB_of (by decide +kernel)
theorem lX0_nextOutside : (sgD 8).2.2.1 = 4 := rfl
theorem eX0_nextOutside_0 : BX0_nextOutside.getD 0 [] = bX0_nextOutside_0 := rfl
theorem eX0_nextOutside_1 : BX0_nextOutside.getD 1 [] = bX0_nextOutside_1 := rfl
theorem eX0_nextOutside_2 : BX0_nextOutside.getD 2 [] = bX0_nextOutside_2 := rfl
theorem eX0_nextOutside_3 : BX0_nextOutside.getD 3 [] = bX0_nextOutside_3 := rfl
def bX0_partsAround_0 : List In := [(0, 1, 0, 0, 0, []), (1, 7, 0, 1, 2, []), (2, 6, 0, 1, 0, []), (3, 40, 7, 0, 0, [671351265, 15, 2027]), (6, 4, 0, 1, 1, []), (7, 45, 0, 0, 0, []), (8, 7, 0, 1, 3, []), (9, 58, 0, 0, 1001, [])]
def bX0_partsAround_1 : List In := [(9, 4, 0, 1, 2, []), (10, 1, 60, 1, 0, []), (12, 56, 3, 0, 2, []), (15, 4, 0, 1, 3, []), (16, 1, -1, 0, 0, []), (17, 56, 0, 0, 2, []), (20, 10, 1, 0, 2, []), (23, 6, 0, 1, 0, []), (24, 40, 7, 0, 0, [671351265, 15, 2027]), (27, 4, 0, 1, 3, []), (28, 45, 0, 0, 0, []), (29, 7, 0, 1, 3, []), (30, 57, 0, 0, 1001, [])]
def bX0_partsAround_2 : List In := [(33, 4, 0, 1, 2, []), (34, 60, 0, 0, 0, [])]
def BX0_partsAround : List (List In) := [bX0_partsAround_0, bX0_partsAround_1, bX0_partsAround_2]
set_option maxRecDepth 100000 in
theorem mkX0_partsAround : MkB 9 BX0_partsAround := MkB_of (by decide +kernel)
theorem lX0_partsAround : (sgD 9).2.2.1 = 4 := rfl
theorem eX0_partsAround_0 : BX0_partsAround.getD 0 [] = bX0_partsAround_0 := rfl
theorem eX0_partsAround_1 : BX0_partsAround.getD 1 [] = bX0_partsAround_1 := rfl
theorem eX0_partsAround_2 : BX0_partsAround.getD 2 [] = bX0_partsAround_2 := rfl
def bX0_rightIn_0 : List In := [(0, 1, 0, 0, 0, []), (1, 7, 0, 1, 2, []), (2, 6, 0, 1, 0, []), (3, 40, 10, 0, 0, [721682921, 24, 2032]), (6, 4, 0, 1, 1, []), (7, 1, 1, 0, 0, []), (8, 11, 0, 0, 0, []), (9, 45, 0, 0, 0, []), (10, 7, 0, 1, 3, []), (11, 58, 0, 0, 1001, [])]
def bX0_rightIn_1 : List In := [(11, 4, 0, 1, 2, []), (12, 1, 60, 1, 0, []), (14, 56, 3, 0, 2, []), (17, 4, 0, 1, 3, []), (18, 1, -1, 0, 0, []), (19, 56, 0, 0, 2, []), (22, 10, 1, 0, 2, []), (25, 6, 0, 1, 0, []), (26, 40, 9, 0, 0, [704905697, 21, 2031]), (29, 4, 0, 1, 3, []), (30, 45, 0, 0, 0, []), (31, 7, 0, 1, 3, []), (32, 57, 0, 0, 1001, [])]
def bX0_rightIn_2 : List In := [(35, 4, 0, 1, 2, []), (36, 60, 0, 0, 0, [])]
def BX0_rightIn : List (List In) := [bX0_rightIn_0, bX0_rightIn_1, bX0_rightIn_2]
set_option maxRecDepth 100000 in
theorem mkX0_rightIn : MkB 10 BX0_rightIn := MkB_of (by decide +kernel)
theorem lX0_rightIn : (sgD 10).2.2.1 = 4 := rfl
theorem eX0_rightIn_0 : BX0_rightIn.getD 0 [] = bX0_rightIn_0 := rfl
theorem eX0_rightIn_1 : BX0_rightIn.getD 1 [] = bX0_rightIn_1 := rfl
theorem eX0_rightIn_2 : BX0_rightIn.getD 2 [] = bX0_rightIn_2 := rfl
def bX0_takeOut_0 : List In := [(0, 6, 0, 1, 0, []), (1, 40, 8, 0, 0, [688128481, 18, 2029]), (4, 4, 0, 1, 1, []), (5, 45, 0, 0, 0, []), (6, 1, -1, 0, 0, []), (7, 56, 1, 0, 1, []), (10, 6, 0, 1, 0, []), (11, 40, 10, 0, 0, [721682921, 24, 2032]), (14, 6, 0, 1, 0, []), (15, 40, 7, 0, 0, [671351265, 15, 2027]), (18, 4, 0, 1, 1, []), (19, 45, 0, 0, 0, []), (20, 1, 1, 0, 0, []), (21, 11, 0, 0, 0, []), (22, 6, 0, 1, 0, []), (23, 40, 9, 0, 0, [704905697, 21, 2031]), (26, 4, 0, 1, 1, []), (27, 45, 0, 0, 0, []), (28, 50, 0, 0, 0, []), (29, 57, 0, 0, 2, [])]
def bX0_takeOut_1 : List In := [(32, 6, 0, 1, 0, []), (33, 40, 9, 0, 0, [704905697, 21, 2031]), (36, 6, 0, 1, 0, []), (37, 40, 8, 0, 0, [688128481, 18, 2029]), (40, 4, 0, 1, 1, []), (41, 45, 0, 0, 0, []), (42, 6, 0, 1, 0, []), (43, 40, 9, 0, 0, [704905697, 21, 2031]), (46, 4, 0, 1, 1, []), (47, 45, 0, 0, 0, []), (48, 50, 0, 0, 0, []), (49, 58, 0, 0, 2, [])]
def bX0_takeOut_2 : List In := [(49, 6, 0, 1, 0, []), (50, 40, 9, 0, 0, [704905697, 21, 2031]), (53, 4, 0, 1, 1, []), (54, 45, 0, 0, 0, []), (55, 1, -1, 0, 0, []), (56, 56, 0, 0, 3, []), (59, 6, 0, 1, 0, []), (60, 40, 8, 0, 0, [688128481, 18, 2029]), (63, 6, 0, 1, 0, []), (64, 40, 9, 0, 0, [704905697, 21, 2031]), (67, 4, 0, 1, 1, []), (68, 45, 0, 0, 0, []), (69, 6, 0, 1, 0, []), (70, 40, 8, 0, 0, [688128481, 18, 2029]), (73, 4, 0, 1, 1, []), (74, 45, 0, 0, 0, []), (75, 50, 0, 0, 0, []), (76, 58, 0, 0, 3, [])]
def bX0_takeOut_3 : List In := [(76, 64, 0, 0, 0, [])]
def BX0_takeOut : List (List In) := [bX0_takeOut_0, bX0_takeOut_1, bX0_takeOut_2, bX0_takeOut_3]
set_option maxRecDepth 100000 in
theorem mkX0_takeOut : MkB 11 BX0_takeOut := MkB_of (by decide +kernel)
theorem lX0_takeOut : (sgD 11).2.2.1 = 2 := rfl
theorem eX0_takeOut_0 : BX0_takeOut.getD 0 [] = bX0_takeOut_0 := rfl
theorem eX0_takeOut_1 : BX0_takeOut.getD 1 [] = bX0_takeOut_1 := rfl
theorem eX0_takeOut_2 : BX0_takeOut.getD 2 [] = bX0_takeOut_2 := rfl
theorem eX0_takeOut_3 : BX0_takeOut.getD 3 [] = bX0_takeOut_3 := rfl
def bX0_wordsOf_0 : List In := [(0, 6, 0, 1, 0, []), (1, 40, 11, 0, 0, [738460129, 27, 2033]), (4, 4, 0, 1, 1, []), (5, 45, 0, 0, 0, []), (6, 1, -1, 0, 0, []), (7, 56, 1, 0, 1, []), (10, 6, 0, 1, 0, []), (11, 39, 0, 0, 0, [33685536, 42, 2019]), (14, 39, 9, 0, 4, [2030174215, 171, 1089]), (17, 57, 0, 0, 2, [])]
def bX0_wordsOf_1 : List In := [(20, 6, 0, 1, 0, []), (21, 39, 0, 0, 0, [33685536, 42, 2019]), (24, 39, 8, 0, 4, [2114060772, 133, 1085]), (27, 6, 0, 1, 0, []), (28, 40, 11, 0, 0, [738460129, 27, 2033]), (31, 4, 0, 1, 1, []), (32, 45, 0, 0, 0, []), (33, 48, 0, 0, 0, []), (34, 58, 0, 0, 2, [])]
def bX0_wordsOf_2 : List In := [(34, 63, 0, 0, 0, [])]
def BX0_wordsOf : List (List In) := [bX0_wordsOf_0, bX0_wordsOf_1, bX0_wordsOf_2]
set_option maxRecDepth 100000 in
theorem mkX0_wordsOf : MkB 12 BX0_wordsOf := MkB_of (by decide +kernel)
theorem lX0_wordsOf : (sgD 12).2.2.1 = 2 := rfl
theorem eX0_wordsOf_0 : BX0_wordsOf.getD 0 [] = bX0_wordsOf_0 := rfl
theorem eX0_wordsOf_1 : BX0_wordsOf.getD 1 [] = bX0_wordsOf_1 := rfl
theorem eX0_wordsOf_2 : BX0_wordsOf.getD 2 [] = bX0_wordsOf_2 := rfl
def bX1_breakFrom_0 : List In := [(0, 6, 0, 1, 0, []), (1, 40, 1, 0, 1, [939786321, 15, 2097]), (4, 4, 0, 1, 1, []), (5, 1, 1000000, 3, 0, [35, 5007]), (7, 50, 0, 0, 0, []), (8, 6, 0, 1, 0, []), (9, 40, 2, 0, 1, [956563537, 18, 2098]), (12, 4, 0, 1, 1, []), (13, 4, 0, 1, 1, []), (14, 1, 1, 0, 0, []), (15, 11, 0, 0, 0, []), (16, 50, 0, 0, 0, []), (17, 4, 0, 1, 2, []), (18, 1, 1, 0, 0, []), (19, 11, 0, 0, 0, []), (20, 7, 0, 1, 3, []), (21, 4, 0, 1, 1, []), (22, 7, 0, 0, 4, []), (24, 58, 0, 0, 1001, [])]
def bX1_breakFrom_1 : List In := [(24, 4, 0, 0, 4, []), (26, 6, 0, 1, 0, []), (27, 37, 3, 0, 1, [21, 2100]), (30, 56, 3, 0, 6, []), (33, 4, 0, 1, 3, []), (34, 1, 1, 0, 0, []), (35, 6, 0, 1, 0, []), (36, 40, 0, 0, 1, [923009097, 9, 2096]), (39, 4, 0, 0, 4, []), (41, 45, 0, 0, 0, []), (42, 11, 0, 0, 0, []), (43, 12, 0, 0, 0, []), (44, 7, 0, 1, 3, []), (45, 4, 0, 1, 3, []), (46, 55, 3, 0, 2, []), (49, 57, 0, 0, 6, [])]
def bX1_breakFrom_2 : List In := [(52, 4, 0, 0, 4, []), (54, 1, 1, 0, 0, []), (55, 11, 0, 0, 0, []), (56, 6, 0, 1, 0, []), (57, 37, 3, 0, 1, [21, 2100]), (60, 56, 1, 0, 3, []), (63, 1, 0, 0, 0, []), (64, 57, 0, 0, 4, [])]
def bX1_breakFrom_3 : List In := [(67, 4, 0, 1, 3, []), (68, 4, 0, 1, 3, []), (69, 13, 0, 0, 0, []), (70, 6, 0, 1, 0, []), (71, 40, 1, 0, 1, [939786321, 15, 2097]), (74, 4, 0, 0, 4, []), (76, 1, 1, 0, 0, []), (77, 11, 0, 0, 0, []), (78, 45, 0, 0, 0, []), (79, 11, 0, 0, 0, []), (80, 58, 0, 0, 4, [])]
def bX1_breakFrom_4 : List In := [(80, 7, 0, 0, 5, []), (82, 4, 0, 0, 5, []), (84, 6, 0, 1, 0, []), (85, 40, 1, 0, 1, [939786321, 15, 2097]), (88, 4, 0, 1, 1, []), (89, 45, 0, 0, 0, []), (90, 56, 4, 0, 5, []), (93, 6, 0, 1, 0, []), (94, 40, 1, 0, 1, [939786321, 15, 2097]), (97, 4, 0, 1, 1, []), (98, 4, 0, 0, 5, []), (100, 50, 0, 0, 0, []), (101, 6, 0, 1, 0, []), (102, 40, 2, 0, 1, [956563537, 18, 2098]), (105, 4, 0, 1, 1, []), (106, 4, 0, 0, 4, []), (108, 1, 1, 0, 0, []), (109, 11, 0, 0, 0, []), (110, 50, 0, 0, 0, []), (111, 58, 0, 0, 5, [])]
def bX1_breakFrom_5 : List In := [(111, 10, 1, 0, 4, []), (114, 57, 0, 0, 1001, [])]
def bX1_breakFrom_6 : List In := [(117, 64, 0, 0, 0, [])]
def BX1_breakFrom : List (List In) := [bX1_breakFrom_0, bX1_breakFrom_1, bX1_breakFrom_2, bX1_breakFrom_3, bX1_breakFrom_4, bX1_breakFrom_5, bX1_breakFrom_6]
set_option maxRecDepth 100000 in
theorem mkX1_breakFrom : MkB 48 BX1_breakFrom := MkB_of (by decide +kernel)
theorem lX1_breakFrom : (sgD 48).2.2.1 = 6 := rfl
theorem eX1_breakFrom_0 : BX1_breakFrom.getD 0 [] = bX1_breakFrom_0 := rfl
theorem eX1_breakFrom_1 : BX1_breakFrom.getD 1 [] = bX1_breakFrom_1 := rfl
theorem eX1_breakFrom_2 : BX1_breakFrom.getD 2 [] = bX1_breakFrom_2 := rfl
theorem eX1_breakFrom_3 : BX1_breakFrom.getD 3 [] = bX1_breakFrom_3 := rfl
theorem eX1_breakFrom_4 : BX1_breakFrom.getD 4 [] = bX1_breakFrom_4 := rfl
theorem eX1_breakFrom_5 : BX1_breakFrom.getD 5 [] = bX1_breakFrom_5 := rfl
theorem eX1_breakFrom_6 : BX1_breakFrom.getD 6 [] = bX1_breakFrom_6 := rfl
def bX1_fill_0 : List In := [(0, 6, 0, 1, 0, []), (1, 1, 0, 0, 0, []), (2, 42, 3, 0, 1, [21, 2100]), (5, 1, 0, 0, 0, []), (6, 7, 0, 1, 3, []), (7, 58, 0, 0, 1001, [])]
def bX1_fill_1 : List In := [(7, 4, 0, 1, 3, []), (8, 6, 0, 1, 1, []), (9, 37, 1, 0, 6, [25, 1047]), (12, 56, 3, 0, 2, []), (15, 6, 0, 1, 0, []), (16, 37, 3, 0, 1, [21, 2100]), (19, 1, 9, 1, 0, []), (21, 56, 3, 0, 2, []), (24, 6, 0, 1, 0, []), (25, 40, 0, 0, 1, [923009097, 9, 2096]), (28, 6, 0, 1, 0, []), (29, 37, 3, 0, 1, [21, 2100]), (32, 1, 1, 0, 0, []), (33, 6, 0, 1, 1, []), (34, 41, 0, 0, 6, [0, 28, 1042]), (37, 4, 0, 1, 3, []), (38, 45, 0, 0, 0, []), (39, 1, 7, 1, 0, []), (41, 15, 0, 0, 0, []), (42, 11, 0, 0, 0, []), (43, 50, 0, 0, 0, []), (44, 6, 0, 1, 0, []), (45, 35, 0, 0, 0, []), (46, 37, 3, 0, 1, [21, 2100]), (49, 1, 1, 0, 0, []), (50, 11, 0, 0, 0, []), (51, 42, 3, 0, 1, [21, 2100]), (54, 10, 1, 0, 3, []), (57, 57, 0, 0, 1001, [])]
def bX1_fill_2 : List In := [(60, 4, 0, 1, 2, []), (61, 55, 5, 0, 3, []), (64, 6, 0, 1, 0, []), (65, 37, 3, 0, 1, [21, 2100]), (68, 1, 9, 1, 0, []), (70, 56, 3, 0, 3, []), (73, 6, 0, 1, 0, []), (74, 40, 0, 0, 1, [923009097, 9, 2096]), (77, 6, 0, 1, 0, []), (78, 37, 3, 0, 1, [21, 2100]), (81, 4, 0, 1, 2, []), (82, 50, 0, 0, 0, []), (83, 6, 0, 1, 0, []), (84, 35, 0, 0, 0, []), (85, 37, 3, 0, 1, [21, 2100]), (88, 1, 1, 0, 0, []), (89, 11, 0, 0, 0, []), (90, 42, 3, 0, 1, [21, 2100]), (93, 58, 0, 0, 3, [])]
def bX1_fill_3 : List In := [(93, 64, 0, 0, 0, [])]
def BX1_fill : List (List In) := [bX1_fill_0, bX1_fill_1, bX1_fill_2, bX1_fill_3]
set_option maxRecDepth 100000 in
theorem mkX1_fill : MkB 49 BX1_fill := MkB_of (by decide +kernel)
theorem lX1_fill : (sgD 49).2.2.1 = 4 := rfl
theorem eX1_fill_0 : BX1_fill.getD 0 [] = bX1_fill_0 := rfl
theorem eX1_fill_1 : BX1_fill.getD 1 [] = bX1_fill_1 := rfl
theorem eX1_fill_2 : BX1_fill.getD 2 [] = bX1_fill_2 := rfl
theorem eX1_fill_3 : BX1_fill.getD 3 [] = bX1_fill_3 := rfl
def bX1_squares_0 : List In := [(0, 6, 0, 1, 0, []), (1, 40, 1, 0, 1, [939786321, 15, 2097]), (4, 1, 0, 0, 0, []), (5, 45, 0, 0, 0, []), (6, 60, 0, 0, 0, [])]
def BX1_squares : List (List In) := [bX1_squares_0]
set_option maxRecDepth 100000 in
theorem mkX1_squares : MkB 50 BX1_squares := MkB_of (by decide +kernel)
theorem lX1_squares : (sgD 50).2.2.1 = 1 := rfl
theorem eX1_squares_0 : BX1_squares.getD 0 [] = bX1_squares_0 := rfl
def bX2_addRule_0 : List In := [(0, 6, 0, 1, 0, []), (1, 37, 3, 0, 2, [41, 1152]), (4, 1, 6, 1, 0, []), (6, 56, 2, 0, 1, []), (9, 64, 0, 0, 0, [])]
def bX2_addRule_1 : List In := [(10, 6, 0, 1, 0, []), (11, 39, 1, 0, 2, [419561521, 9, 1150]), (14, 6, 0, 1, 0, []), (15, 37, 3, 0, 2, [41, 1152]), (18, 4, 0, 1, 1, []), (19, 50, 0, 0, 0, []), (20, 6, 0, 1, 0, []), (21, 39, 2, 0, 2, [436338737, 15, 1151]), (24, 6, 0, 1, 0, []), (25, 37, 3, 0, 2, [41, 1152]), (28, 4, 0, 1, 2, []), (29, 50, 0, 0, 0, []), (30, 6, 0, 1, 0, []), (31, 35, 0, 0, 0, []), (32, 37, 3, 0, 2, [41, 1152]), (35, 1, 1, 0, 0, []), (36, 11, 0, 0, 0, []), (37, 42, 3, 0, 2, [41, 1152]), (40, 64, 0, 0, 0, [])]
def BX2_addRule : List (List In) := [bX2_addRule_0, bX2_addRule_1]
set_option maxRecDepth 100000 in
theorem mkX2_addRule : MkB 51 BX2_addRule := MkB_of (by decide +kernel)
theorem lX2_addRule : (sgD 51).2.2.1 = 3 := rfl
theorem eX2_addRule_0 : BX2_addRule.getD 0 [] = bX2_addRule_0 := rfl
theorem eX2_addRule_1 : BX2_addRule.getD 1 [] = bX2_addRule_1 := rfl
def bX3_join_0 : List In := [(0, 6, 0, 1, 0, []), (1, 39, 0, 0, 3, [386007841, 9, 1129]), (4, 4, 0, 1, 2, []), (5, 45, 0, 0, 0, []), (6, 7, 0, 1, 3, []), (7, 1, 0, 0, 0, []), (8, 7, 0, 0, 4, []), (10, 58, 0, 0, 1001, [])]
def bX3_join_1 : List In := [(10, 4, 0, 0, 4, []), (12, 1, 99, 1, 0, []), (14, 56, 4, 0, 3, []), (17, 6, 0, 1, 0, []), (18, 39, 0, 0, 3, [386007841, 9, 1129]), (21, 4, 0, 0, 4, []), (23, 45, 0, 0, 0, []), (24, 4, 0, 1, 3, []), (25, 56, 1, 0, 2, []), (28, 6, 0, 1, 0, []), (29, 39, 0, 0, 3, [386007841, 9, 1129]), (32, 4, 0, 0, 4, []), (34, 6, 0, 1, 0, []), (35, 39, 0, 0, 3, [386007841, 9, 1129]), (38, 4, 0, 1, 1, []), (39, 45, 0, 0, 0, []), (40, 50, 0, 0, 0, []), (41, 58, 0, 0, 2, [])]
def bX3_join_2 : List In := [(41, 10, 1, 0, 4, []), (44, 57, 0, 0, 1001, [])]
def bX3_join_3 : List In := [(47, 6, 0, 1, 0, []), (48, 35, 0, 0, 0, []), (49, 37, 2, 0, 3, [18, 1131]), (52, 1, 1, 0, 0, []), (53, 11, 0, 0, 0, []), (54, 42, 2, 0, 3, [18, 1131]), (57, 64, 0, 0, 0, [])]
def BX3_join : List (List In) := [bX3_join_0, bX3_join_1, bX3_join_2, bX3_join_3]
set_option maxRecDepth 100000 in
theorem mkX3_join : MkB 52 BX3_join := MkB_of (by decide +kernel)
theorem lX3_join : (sgD 52).2.2.1 = 5 := rfl
theorem eX3_join_0 : BX3_join.getD 0 [] = bX3_join_0 := rfl
theorem eX3_join_1 : BX3_join.getD 1 [] = bX3_join_1 := rfl
theorem eX3_join_2 : BX3_join.getD 2 [] = bX3_join_2 := rfl
theorem eX3_join_3 : BX3_join.getD 3 [] = bX3_join_3 := rfl
def bX3_standsAt_0 : List In := [(0, 4, 0, 1, 3, []), (1, 55, 2, 0, 1, []), (4, 4, 0, 1, 3, []), (5, 6, 0, 1, 1, []), (6, 37, 1, 0, 6, [22, 1049]), (9, 11, 0, 0, 0, []), (10, 6, 0, 1, 2, []), (11, 37, 1, 0, 6, [22, 1049]), (14, 56, 5, 0, 2, []), (17, 58, 0, 0, 1, [])]
def bX3_standsAt_1 : List In := [(17, 1, 0, 0, 0, []), (18, 61, 0, 0, 0, [])]
def bX3_standsAt_2 : List In := [(19, 1, 0, 0, 0, []), (20, 7, 0, 0, 4, []), (22, 58, 0, 0, 1003, [])]
def bX3_standsAt_3 : List In := [(22, 4, 0, 0, 4, []), (24, 6, 0, 1, 1, []), (25, 37, 1, 0, 6, [22, 1049]), (28, 56, 3, 0, 5, []), (31, 6, 0, 1, 0, []), (32, 39, 0, 0, 3, [386007841, 9, 1129]), (35, 6, 0, 1, 1, []), (36, 41, 0, 0, 6, [0, 29, 1043]), (39, 4, 0, 0, 4, []), (41, 45, 0, 0, 0, []), (42, 45, 0, 0, 0, []), (43, 6, 0, 1, 0, []), (44, 39, 0, 0, 3, [386007841, 9, 1129]), (47, 6, 0, 1, 2, []), (48, 41, 0, 0, 6, [0, 29, 1043]), (51, 4, 0, 1, 3, []), (52, 4, 0, 0, 4, []), (54, 11, 0, 0, 0, []), (55, 45, 0, 0, 0, []), (56, 45, 0, 0, 0, []), (57, 56, 0, 0, 4, []), (60, 1, 0, 0, 0, []), (61, 61, 0, 0, 0, [])]
def bX3_standsAt_4 : List In := [(62, 10, 1, 0, 4, []), (65, 57, 0, 0, 1003, [])]
def bX3_standsAt_5 : List In := [(68, 1, 1, 0, 0, []), (69, 61, 0, 0, 0, [])]
def BX3_standsAt : List (List In) := [bX3_standsAt_0, bX3_standsAt_1, bX3_standsAt_2, bX3_standsAt_3, bX3_standsAt_4, bX3_standsAt_5]
set_option maxRecDepth 100000 in
theorem mkX3_standsAt : MkB 53 BX3_standsAt := MkB_of (by decide +kernel)
theorem lX3_standsAt : (sgD 53).2.2.1 = 5 := rfl
theorem eX3_standsAt_0 : BX3_standsAt.getD 0 [] = bX3_standsAt_0 := rfl
theorem eX3_standsAt_1 : BX3_standsAt.getD 1 [] = bX3_standsAt_1 := rfl
theorem eX3_standsAt_2 : BX3_standsAt.getD 2 [] = bX3_standsAt_2 := rfl
theorem eX3_standsAt_3 : BX3_standsAt.getD 3 [] = bX3_standsAt_3 := rfl
theorem eX3_standsAt_4 : BX3_standsAt.getD 4 [] = bX3_standsAt_4 := rfl
theorem eX3_standsAt_5 : BX3_standsAt.getD 5 [] = bX3_standsAt_5 := rfl
def bX4_isAhead_0 : List In := [(0, 6, 0, 1, 0, []), (1, 39, 2, 0, 4, [268567009, 18, 1065]), (4, 4, 0, 1, 1, []), (5, 45, 0, 0, 0, []), (6, 6, 0, 1, 0, []), (7, 39, 2, 0, 4, [268567009, 18, 1065]), (10, 4, 0, 1, 2, []), (11, 45, 0, 0, 0, []), (12, 56, 2, 0, 1, []), (15, 6, 0, 1, 0, []), (16, 39, 2, 0, 4, [268567009, 18, 1065]), (19, 4, 0, 1, 1, []), (20, 45, 0, 0, 0, []), (21, 6, 0, 1, 0, []), (22, 39, 2, 0, 4, [268567009, 18, 1065]), (25, 4, 0, 1, 2, []), (26, 45, 0, 0, 0, []), (27, 56, 1, 0, 2, []), (30, 6, 0, 1, 0, []), (31, 39, 1, 0, 4, [251789793, 15, 1063]), (34, 4, 0, 1, 1, []), (35, 45, 0, 0, 0, []), (36, 6, 0, 1, 0, []), (37, 39, 1, 0, 4, [251789793, 15, 1063]), (40, 4, 0, 1, 2, []), (41, 45, 0, 0, 0, []), (42, 56, 3, 0, 2, []), (45, 58, 0, 0, 1, [])]
def bX4_isAhead_1 : List In := [(45, 1, 1, 0, 0, []), (46, 57, 0, 0, 3, [])]
def bX4_isAhead_2 : List In := [(49, 1, 0, 0, 0, []), (50, 58, 0, 0, 3, [])]
def bX4_isAhead_3 : List In := [(50, 61, 0, 0, 0, [])]
def BX4_isAhead : List (List In) := [bX4_isAhead_0, bX4_isAhead_1, bX4_isAhead_2, bX4_isAhead_3]
set_option maxRecDepth 100000 in
theorem mkX4_isAhead : MkB 54 BX4_isAhead := MkB_of (by decide +kernel)
theorem lX4_isAhead : (sgD 54).2.2.1 = 3 := rfl
theorem eX4_isAhead_0 : BX4_isAhead.getD 0 [] = bX4_isAhead_0 := rfl
theorem eX4_isAhead_1 : BX4_isAhead.getD 1 [] = bX4_isAhead_1 := rfl
theorem eX4_isAhead_2 : BX4_isAhead.getD 2 [] = bX4_isAhead_2 := rfl
theorem eX4_isAhead_3 : BX4_isAhead.getD 3 [] = bX4_isAhead_3 := rfl
def bX4_isFull_0 : List In := [(0, 6, 0, 1, 0, []), (1, 37, 11, 0, 4, [52, 1093]), (4, 1, 60, 1, 0, []), (6, 56, 2, 0, 1, []), (9, 1, 1, 0, 0, []), (10, 57, 0, 0, 2, [])]
def bX4_isFull_1 : List In := [(13, 1, 0, 0, 0, []), (14, 58, 0, 0, 2, [])]
def bX4_isFull_2 : List In := [(14, 61, 0, 0, 0, [])]
def BX4_isFull : List (List In) := [bX4_isFull_0, bX4_isFull_1, bX4_isFull_2]
set_option maxRecDepth 100000 in
theorem mkX4_isFull : MkB 55 BX4_isFull := MkB_of (by decide +kernel)
theorem lX4_isFull : (sgD 55).2.2.1 = 1 := rfl
theorem eX4_isFull_0 : BX4_isFull.getD 0 [] = bX4_isFull_0 := rfl
theorem eX4_isFull_1 : BX4_isFull.getD 1 [] = bX4_isFull_1 := rfl
theorem eX4_isFull_2 : BX4_isFull.getD 2 [] = bX4_isFull_2 := rfl
def bX5_begin_0 : List In := [(0, 6, 0, 1, 0, []), (1, 4, 0, 1, 1, []), (2, 42, 0, 0, 5, [7, 2117]), (5, 6, 0, 1, 0, []), (6, 1, 1, 0, 0, []), (7, 42, 1, 0, 5, [13, 2118]), (10, 6, 0, 1, 0, []), (11, 1, 0, 0, 0, []), (12, 42, 2, 0, 5, [16, 2119]), (15, 6, 0, 1, 0, []), (16, 1, 0, 0, 0, []), (17, 42, 3, 0, 5, [19, 2120]), (20, 64, 0, 0, 0, [])]
def BX5_begin : List (List In) := [bX5_begin_0]
set_option maxRecDepth 100000 in
theorem mkX5_begin : MkB 56 BX5_begin := MkB_of (by decide +kernel)
theorem lX5_begin : (sgD 56).2.2.1 = 2 := rfl
theorem eX5_begin_0 : BX5_begin.getD 0 [] = bX5_begin_0 := rfl
def bX5_pagesInAll_0 : List In := [(0, 6, 0, 1, 0, []), (1, 37, 2, 0, 5, [16, 2119]), (4, 55, 1, 0, 1, []), (7, 1, 0, 0, 0, []), (8, 57, 0, 0, 2, [])]
def bX5_pagesInAll_1 : List In := [(11, 6, 0, 1, 0, []), (12, 37, 1, 0, 5, [13, 2118]), (15, 58, 0, 0, 2, [])]
def bX5_pagesInAll_2 : List In := [(15, 60, 0, 0, 0, [])]
def BX5_pagesInAll : List (List In) := [bX5_pagesInAll_0, bX5_pagesInAll_1, bX5_pagesInAll_2]
set_option maxRecDepth 100000 in
theorem mkX5_pagesInAll : MkB 57 BX5_pagesInAll := MkB_of (by decide +kernel)
theorem lX5_pagesInAll : (sgD 57).2.2.1 = 1 := rfl
theorem eX5_pagesInAll_0 : BX5_pagesInAll.getD 0 [] = bX5_pagesInAll_0 := rfl
theorem eX5_pagesInAll_1 : BX5_pagesInAll.getD 1 [] = bX5_pagesInAll_1 := rfl
theorem eX5_pagesInAll_2 : BX5_pagesInAll.getD 2 [] = bX5_pagesInAll_2 := rfl
def bX5_take_0 : List In := [(0, 6, 0, 1, 0, []), (1, 37, 2, 0, 5, [16, 2119]), (4, 4, 0, 1, 1, []), (5, 11, 0, 0, 0, []), (6, 6, 0, 1, 0, []), (7, 37, 0, 0, 5, [7, 2117]), (10, 56, 5, 0, 1, []), (13, 6, 0, 1, 0, []), (14, 35, 0, 0, 0, []), (15, 37, 3, 0, 5, [19, 2120]), (18, 6, 0, 1, 0, []), (19, 37, 0, 0, 5, [7, 2117]), (22, 6, 0, 1, 0, []), (23, 37, 2, 0, 5, [16, 2119]), (26, 12, 0, 0, 0, []), (27, 11, 0, 0, 0, []), (28, 42, 3, 0, 5, [19, 2120]), (31, 6, 0, 1, 0, []), (32, 35, 0, 0, 0, []), (33, 37, 1, 0, 5, [13, 2118]), (36, 1, 1, 0, 0, []), (37, 11, 0, 0, 0, []), (38, 42, 1, 0, 5, [13, 2118]), (41, 6, 0, 1, 0, []), (42, 1, 0, 0, 0, []), (43, 42, 2, 0, 5, [16, 2119]), (46, 58, 0, 0, 1, [])]
def bX5_take_1 : List In := [(46, 6, 0, 1, 0, []), (47, 35, 0, 0, 0, []), (48, 37, 2, 0, 5, [16, 2119]), (51, 4, 0, 1, 1, []), (52, 11, 0, 0, 0, []), (53, 42, 2, 0, 5, [16, 2119]), (56, 6, 0, 1, 0, []), (57, 37, 1, 0, 5, [13, 2118]), (60, 60, 0, 0, 0, [])]
def BX5_take : List (List In) := [bX5_take_0, bX5_take_1]
set_option maxRecDepth 100000 in
theorem mkX5_take : MkB 58 BX5_take := MkB_of (by decide +kernel)
theorem lX5_take : (sgD 58).2.2.1 = 2 := rfl
theorem eX5_take_0 : BX5_take.getD 0 [] = bX5_take_0 := rfl
theorem eX5_take_1 : BX5_take.getD 1 [] = bX5_take_1 := rfl
def bX5_whereOneLineWouldCome_0 : List In := [(0, 6, 0, 1, 0, []), (1, 37, 2, 0, 5, [16, 2119]), (4, 1, 1, 0, 0, []), (5, 11, 0, 0, 0, []), (6, 6, 0, 1, 0, []), (7, 37, 0, 0, 5, [7, 2117]), (10, 56, 5, 0, 1, []), (13, 6, 0, 1, 0, []), (14, 37, 1, 0, 5, [13, 2118]), (17, 1, 1, 0, 0, []), (18, 11, 0, 0, 0, []), (19, 57, 0, 0, 2, [])]
def bX5_whereOneLineWouldCome_1 : List In := [(22, 6, 0, 1, 0, []), (23, 37, 1, 0, 5, [13, 2118]), (26, 58, 0, 0, 2, [])]
def bX5_whereOneLineWouldCome_2 : List In := [(26, 60, 0, 0, 0, [])]
def BX5_whereOneLineWouldCome : List (List In) := [bX5_whereOneLineWouldCome_0, bX5_whereOneLineWouldCome_1, bX5_whereOneLineWouldCome_2]
set_option maxRecDepth 100000 in
theorem mkX5_whereOneLineWouldCome : MkB 59 BX5_whereOneLineWouldCome := MkB_of (by decide +kernel)
theorem lX5_whereOneLineWouldCome : (sgD 59).2.2.1 = 1 := rfl
theorem eX5_whereOneLineWouldCome_0 : BX5_whereOneLineWouldCome.getD 0 [] = bX5_whereOneLineWouldCome_0 := rfl
theorem eX5_whereOneLineWouldCome_1 : BX5_whereOneLineWouldCome.getD 1 [] = bX5_whereOneLineWouldCome_1 := rfl
theorem eX5_whereOneLineWouldCome_2 : BX5_whereOneLineWouldCome.getD 2 [] = bX5_whereOneLineWouldCome_2 := rfl
def bX6_clear_0 : List In := [(0, 6, 0, 1, 0, []), (1, 1, 0, 0, 0, []), (2, 42, 1, 0, 6, [19, 1046]), (5, 64, 0, 0, 0, [])]
def BX6_clear : List (List In) := [bX6_clear_0]
set_option maxRecDepth 100000 in
theorem mkX6_clear : MkB 60 BX6_clear := MkB_of (by decide +kernel)
theorem lX6_clear : (sgD 60).2.2.1 = 1 := rfl
theorem eX6_clear_0 : BX6_clear.getD 0 [] = bX6_clear_0 := rfl
def bX6_howOften_0 : List In := [(0, 1, 0, 0, 0, []), (1, 7, 0, 1, 2, []), (2, 1, 0, 0, 0, []), (3, 7, 0, 1, 3, []), (4, 58, 0, 0, 1001, [])]
def bX6_howOften_1 : List In := [(4, 4, 0, 1, 3, []), (5, 6, 0, 1, 0, []), (6, 37, 1, 0, 6, [19, 1046]), (9, 56, 3, 0, 3, []), (12, 6, 0, 1, 0, []), (13, 41, 0, 0, 6, [0, 13, 1041]), (16, 4, 0, 1, 3, []), (17, 45, 0, 0, 0, []), (18, 4, 0, 1, 1, []), (19, 56, 1, 0, 2, []), (22, 10, 1, 0, 2, []), (25, 58, 0, 0, 2, [])]
def bX6_howOften_2 : List In := [(25, 10, 1, 0, 3, []), (28, 57, 0, 0, 1001, [])]
def bX6_howOften_3 : List In := [(31, 4, 0, 1, 2, []), (32, 60, 0, 0, 0, [])]
def BX6_howOften : List (List In) := [bX6_howOften_0, bX6_howOften_1, bX6_howOften_2, bX6_howOften_3]
set_option maxRecDepth 100000 in
theorem mkX6_howOften : MkB 61 BX6_howOften := MkB_of (by decide +kernel)
theorem lX6_howOften : (sgD 61).2.2.1 = 4 := rfl
theorem eX6_howOften_0 : BX6_howOften.getD 0 [] = bX6_howOften_0 := rfl
theorem eX6_howOften_1 : BX6_howOften.getD 1 [] = bX6_howOften_1 := rfl
theorem eX6_howOften_2 : BX6_howOften.getD 2 [] = bX6_howOften_2 := rfl
theorem eX6_howOften_3 : BX6_howOften.getD 3 [] = bX6_howOften_3 := rfl
def bX6_isFull_0 : List In := [(0, 6, 0, 1, 0, []), (1, 37, 1, 0, 6, [19, 1046]), (4, 6, 0, 1, 0, []), (5, 41, 0, 0, 6, [0, 13, 1041]), (8, 54, 0, 0, 0, []), (9, 56, 2, 0, 1, []), (12, 1, 1, 0, 0, []), (13, 57, 0, 0, 2, [])]
def bX6_isFull_1 : List In := [(16, 1, 0, 0, 0, []), (17, 58, 0, 0, 2, [])]
def bX6_isFull_2 : List In := [(17, 61, 0, 0, 0, [])]
def BX6_isFull : List (List In) := [bX6_isFull_0, bX6_isFull_1, bX6_isFull_2]
set_option maxRecDepth 100000 in
theorem mkX6_isFull : MkB 62 BX6_isFull := MkB_of (by decide +kernel)
theorem lX6_isFull : (sgD 62).2.2.1 = 1 := rfl
theorem eX6_isFull_0 : BX6_isFull.getD 0 [] = bX6_isFull_0 := rfl
theorem eX6_isFull_1 : BX6_isFull.getD 1 [] = bX6_isFull_1 := rfl
theorem eX6_isFull_2 : BX6_isFull.getD 2 [] = bX6_isFull_2 := rfl
def bX7_digitsOf_0 : List In := [(0, 6, 0, 1, 0, []), (1, 40, 6, 0, 7, [822346209, 31, 2140]), (4, 4, 0, 1, 1, []), (5, 45, 0, 0, 0, []), (6, 1, -1, 0, 0, []), (7, 56, 1, 0, 1, []), (10, 1, 0, 0, 0, []), (11, 60, 0, 0, 0, [])]
def bX7_digitsOf_1 : List In := [(12, 1, 1, 0, 0, []), (13, 7, 0, 1, 2, []), (14, 6, 0, 1, 0, []), (15, 40, 8, 0, 7, [855900641, 38, 2143]), (18, 6, 0, 1, 0, []), (19, 40, 6, 0, 7, [822346209, 31, 2140]), (22, 4, 0, 1, 1, []), (23, 45, 0, 0, 0, []), (24, 45, 0, 0, 0, []), (25, 1, 10, 1, 0, []), (27, 14, 0, 0, 0, []), (28, 7, 0, 1, 3, []), (29, 58, 0, 0, 1002, [])]
def bX7_digitsOf_2 : List In := [(29, 4, 0, 1, 3, []), (30, 55, 5, 0, 3, []), (33, 10, 1, 0, 2, []), (36, 4, 0, 1, 3, []), (37, 1, 10, 1, 0, []), (39, 14, 0, 0, 0, []), (40, 7, 0, 1, 3, []), (41, 57, 0, 0, 1002, [])]
def bX7_digitsOf_3 : List In := [(44, 4, 0, 1, 2, []), (45, 60, 0, 0, 0, [])]
def BX7_digitsOf : List (List In) := [bX7_digitsOf_0, bX7_digitsOf_1, bX7_digitsOf_2, bX7_digitsOf_3]
set_option maxRecDepth 100000 in
theorem mkX7_digitsOf : MkB 63 BX7_digitsOf := MkB_of (by decide +kernel)
theorem lX7_digitsOf : (sgD 63).2.2.1 = 4 := rfl
theorem eX7_digitsOf_0 : BX7_digitsOf.getD 0 [] = bX7_digitsOf_0 := rfl
theorem eX7_digitsOf_1 : BX7_digitsOf.getD 1 [] = bX7_digitsOf_1 := rfl
theorem eX7_digitsOf_2 : BX7_digitsOf.getD 2 [] = bX7_digitsOf_2 := rfl
theorem eX7_digitsOf_3 : BX7_digitsOf.getD 3 [] = bX7_digitsOf_3 := rfl
def bX7_isOtherThanBefore_0 : List In := [(0, 1, 0, 0, 0, []), (1, 7, 0, 1, 1, []), (2, 58, 0, 0, 1001, [])]
def bX7_isOtherThanBefore_1 : List In := [(2, 4, 0, 1, 1, []), (3, 6, 0, 1, 0, []), (4, 40, 2, 0, 7, [117702656, 58, 2134]), (7, 37, 16, 0, 0, [134, 2046]), (10, 56, 3, 0, 3, []), (13, 6, 0, 1, 0, []), (14, 40, 2, 0, 7, [117702656, 58, 2134]), (17, 40, 15, 0, 0, [805568993, 137, 2044]), (20, 4, 0, 1, 1, []), (21, 45, 0, 0, 0, []), (22, 7, 0, 1, 2, []), (23, 6, 0, 1, 0, []), (24, 40, 7, 0, 7, [839123425, 35, 2141]), (27, 4, 0, 1, 2, []), (28, 45, 0, 0, 0, []), (29, 6, 0, 1, 0, []), (30, 40, 8, 0, 7, [855900641, 38, 2143]), (33, 4, 0, 1, 2, []), (34, 45, 0, 0, 0, []), (35, 56, 0, 0, 2, []), (38, 1, 1, 0, 0, []), (39, 61, 0, 0, 0, [])]
def bX7_isOtherThanBefore_2 : List In := [(40, 10, 1, 0, 1, []), (43, 57, 0, 0, 1001, [])]
def bX7_isOtherThanBefore_3 : List In := [(46, 1, 0, 0, 0, []), (47, 61, 0, 0, 0, [])]
def BX7_isOtherThanBefore : List (List In) := [bX7_isOtherThanBefore_0, bX7_isOtherThanBefore_1, bX7_isOtherThanBefore_2, bX7_isOtherThanBefore_3]
set_option maxRecDepth 100000 in
theorem mkX7_isOtherThanBefore : MkB 64 BX7_isOtherThanBefore := MkB_of (by decide +kernel)
theorem lX7_isOtherThanBefore : (sgD 64).2.2.1 = 3 := rfl
theorem eX7_isOtherThanBefore_0 : BX7_isOtherThanBefore.getD 0 [] = bX7_isOtherThanBefore_0 := rfl
theorem eX7_isOtherThanBefore_1 : BX7_isOtherThanBefore.getD 1 [] = bX7_isOtherThanBefore_1 := rfl
theorem eX7_isOtherThanBefore_2 : BX7_isOtherThanBefore.getD 2 [] = bX7_isOtherThanBefore_2 := rfl
theorem eX7_isOtherThanBefore_3 : BX7_isOtherThanBefore.getD 3 [] = bX7_isOtherThanBefore_3 := rfl
def bX7_lastPageOf_0 : List In := [(0, 6, 0, 1, 0, []), (1, 40, 9, 0, 7, [872677857, 41, 2144]), (4, 4, 0, 1, 1, []), (5, 45, 0, 0, 0, []), (6, 55, 1, 0, 1, []), (9, 6, 0, 1, 0, []), (10, 40, 7, 0, 7, [839123425, 35, 2141]), (13, 4, 0, 1, 1, []), (14, 45, 0, 0, 0, []), (15, 57, 0, 0, 2, [])]
def bX7_lastPageOf_1 : List In := [(18, 6, 0, 1, 0, []), (19, 40, 10, 0, 7, [889458913, 44, 2146]), (22, 4, 0, 1, 1, []), (23, 1, 9, 1, 0, []), (25, 13, 0, 0, 0, []), (26, 6, 0, 1, 0, []), (27, 40, 9, 0, 7, [872677857, 41, 2144]), (30, 4, 0, 1, 1, []), (31, 45, 0, 0, 0, []), (32, 11, 0, 0, 0, []), (33, 1, 1, 0, 0, []), (34, 12, 0, 0, 0, []), (35, 45, 0, 0, 0, []), (36, 58, 0, 0, 2, [])]
def bX7_lastPageOf_2 : List In := [(36, 60, 0, 0, 0, [])]
def BX7_lastPageOf : List (List In) := [bX7_lastPageOf_0, bX7_lastPageOf_1, bX7_lastPageOf_2]
set_option maxRecDepth 100000 in
theorem mkX7_lastPageOf : MkB 65 BX7_lastPageOf := MkB_of (by decide +kernel)
theorem lX7_lastPageOf : (sgD 65).2.2.1 = 2 := rfl
theorem eX7_lastPageOf_0 : BX7_lastPageOf.getD 0 [] = bX7_lastPageOf_0 := rfl
theorem eX7_lastPageOf_1 : BX7_lastPageOf.getD 1 [] = bX7_lastPageOf_1 := rfl
theorem eX7_lastPageOf_2 : BX7_lastPageOf.getD 2 [] = bX7_lastPageOf_2 := rfl
def bX7_linesOf_0 : List In := [(0, 6, 0, 1, 0, []), (1, 39, 0, 0, 7, [33685536, 50, 2132]), (4, 39, 6, 0, 4, [335675873, 149, 1078]), (7, 4, 0, 1, 1, []), (8, 45, 0, 0, 0, []), (9, 1, 1, 0, 0, []), (10, 56, 1, 0, 1, []), (13, 6, 0, 1, 0, []), (14, 40, 9, 0, 7, [872677857, 41, 2144]), (17, 4, 0, 1, 1, []), (18, 45, 0, 0, 0, []), (19, 60, 0, 0, 0, [])]
def bX7_linesOf_1 : List In := [(20, 6, 0, 1, 0, []), (21, 39, 0, 0, 7, [33685536, 50, 2132]), (24, 39, 6, 0, 4, [335675873, 149, 1078]), (27, 4, 0, 1, 1, []), (28, 45, 0, 0, 0, []), (29, 1, 2, 0, 0, []), (30, 56, 1, 0, 2, []), (33, 6, 0, 1, 0, []), (34, 39, 0, 0, 7, [33685536, 50, 2132]), (37, 39, 7, 0, 4, [352453089, 187, 1082]), (40, 4, 0, 1, 1, []), (41, 45, 0, 0, 0, []), (42, 57, 0, 0, 3, [])]
def bX7_linesOf_2 : List In := [(45, 1, 1, 0, 0, []), (46, 58, 0, 0, 3, [])]
def bX7_linesOf_3 : List In := [(46, 60, 0, 0, 0, [])]
def BX7_linesOf : List (List In) := [bX7_linesOf_0, bX7_linesOf_1, bX7_linesOf_2, bX7_linesOf_3]
set_option maxRecDepth 100000 in
theorem mkX7_linesOf : MkB 66 BX7_linesOf := MkB_of (by decide +kernel)
theorem lX7_linesOf : (sgD 66).2.2.1 = 2 := rfl
theorem eX7_linesOf_0 : BX7_linesOf.getD 0 [] = bX7_linesOf_0 := rfl
theorem eX7_linesOf_1 : BX7_linesOf.getD 1 [] = bX7_linesOf_1 := rfl
theorem eX7_linesOf_2 : BX7_linesOf.getD 2 [] = bX7_linesOf_2 := rfl
theorem eX7_linesOf_3 : BX7_linesOf.getD 3 [] = bX7_linesOf_3 := rfl
def bX7_numberOf_0 : List In := [(0, 6, 0, 1, 0, []), (1, 40, 6, 0, 7, [822346209, 31, 2140]), (4, 4, 0, 1, 1, []), (5, 45, 0, 0, 0, []), (6, 1, -1, 0, 0, []), (7, 56, 1, 0, 1, []), (10, 1, -6, 1, 0, []), (12, 57, 0, 0, 2, [])]
def bX7_numberOf_1 : List In := [(15, 6, 0, 1, 0, []), (16, 40, 7, 0, 7, [839123425, 35, 2141]), (19, 6, 0, 1, 0, []), (20, 40, 6, 0, 7, [822346209, 31, 2140]), (23, 4, 0, 1, 1, []), (24, 45, 0, 0, 0, []), (25, 45, 0, 0, 0, []), (26, 58, 0, 0, 2, [])]
def bX7_numberOf_2 : List In := [(26, 60, 0, 0, 0, [])]
def BX7_numberOf : List (List In) := [bX7_numberOf_0, bX7_numberOf_1, bX7_numberOf_2]
set_option maxRecDepth 100000 in
theorem mkX7_numberOf : MkB 67 BX7_numberOf := MkB_of (by decide +kernel)
theorem lX7_numberOf : (sgD 67).2.2.1 = 2 := rfl
theorem eX7_numberOf_0 : BX7_numberOf.getD 0 [] = bX7_numberOf_0 := rfl
theorem eX7_numberOf_1 : BX7_numberOf.getD 1 [] = bX7_numberOf_1 := rfl
theorem eX7_numberOf_2 : BX7_numberOf.getD 2 [] = bX7_numberOf_2 := rfl
def bX7_wordsInLine_0 : List In := [(0, 4, 0, 1, 2, []), (1, 55, 2, 0, 1, []), (4, 4, 0, 1, 2, []), (5, 6, 0, 1, 0, []), (6, 40, 9, 0, 7, [872677857, 41, 2144]), (9, 4, 0, 1, 1, []), (10, 45, 0, 0, 0, []), (11, 56, 3, 0, 1, []), (14, 6, 0, 1, 0, []), (15, 40, 11, 0, 7, [906236129, 47, 2148]), (18, 4, 0, 1, 1, []), (19, 1, 9, 1, 0, []), (21, 13, 0, 0, 0, []), (22, 4, 0, 1, 2, []), (23, 11, 0, 0, 0, []), (24, 45, 0, 0, 0, []), (25, 57, 0, 0, 2, [])]
def bX7_wordsInLine_1 : List In := [(28, 1, -6, 1, 0, []), (30, 58, 0, 0, 2, [])]
def bX7_wordsInLine_2 : List In := [(30, 60, 0, 0, 0, [])]
def BX7_wordsInLine : List (List In) := [bX7_wordsInLine_0, bX7_wordsInLine_1, bX7_wordsInLine_2]
set_option maxRecDepth 100000 in
theorem mkX7_wordsInLine : MkB 68 BX7_wordsInLine := MkB_of (by decide +kernel)
theorem lX7_wordsInLine : (sgD 68).2.2.1 = 3 := rfl
theorem eX7_wordsInLine_0 : BX7_wordsInLine.getD 0 [] = bX7_wordsInLine_0 := rfl
theorem eX7_wordsInLine_1 : BX7_wordsInLine.getD 1 [] = bX7_wordsInLine_1 := rfl
theorem eX7_wordsInLine_2 : BX7_wordsInLine.getD 2 [] = bX7_wordsInLine_2 := rfl
def bX8_add_0 : List In := [(0, 6, 0, 1, 0, []), (1, 37, 4, 0, 8, [25, 2000]), (4, 1, 6, 1, 0, []), (6, 56, 2, 0, 1, []), (9, 64, 0, 0, 0, [])]
def bX8_add_1 : List In := [(10, 6, 0, 1, 0, []), (11, 39, 0, 0, 8, [587333683, 9, 1232]), (14, 6, 0, 1, 0, []), (15, 37, 4, 0, 8, [25, 2000]), (18, 5, 0, 1, 1, []), (19, 52, 0, 0, 0, []), (20, 6, 0, 1, 0, []), (21, 39, 1, 0, 8, [604110897, 15, 1234]), (24, 6, 0, 1, 0, []), (25, 37, 4, 0, 8, [25, 2000]), (28, 4, 0, 1, 3, []), (29, 50, 0, 0, 0, []), (30, 6, 0, 1, 0, []), (31, 39, 2, 0, 8, [620888113, 19, 1236]), (34, 6, 0, 1, 0, []), (35, 37, 4, 0, 8, [25, 2000]), (38, 4, 0, 0, 4, []), (40, 50, 0, 0, 0, []), (41, 6, 0, 1, 0, []), (42, 39, 3, 0, 8, [637665329, 22, 1238]), (45, 6, 0, 1, 0, []), (46, 37, 4, 0, 8, [25, 2000]), (49, 4, 0, 0, 5, []), (51, 50, 0, 0, 0, []), (52, 6, 0, 1, 0, []), (53, 35, 0, 0, 0, []), (54, 37, 4, 0, 8, [25, 2000]), (57, 1, 1, 0, 0, []), (58, 11, 0, 0, 0, []), (59, 42, 4, 0, 8, [25, 2000]), (62, 64, 0, 0, 0, [])]
def BX8_add : List (List In) := [bX8_add_0, bX8_add_1]
set_option maxRecDepth 100000 in
theorem mkX8_add : MkB 69 BX8_add := MkB_of (by decide +kernel)
theorem lX8_add : (sgD 69).2.2.1 = 6 := rfl
theorem eX8_add_0 : BX8_add.getD 0 [] = bX8_add_0 := rfl
theorem eX8_add_1 : BX8_add.getD 1 [] = bX8_add_1 := rfl
def bX9_addTerm_0 : List In := [(0, 6, 0, 1, 0, []), (1, 37, 10, 0, 9, [55, 1201]), (4, 1, 6, 1, 0, []), (6, 56, 2, 0, 1, []), (9, 64, 0, 0, 0, [])]
def bX9_addTerm_1 : List In := [(10, 6, 0, 1, 0, []), (11, 39, 7, 0, 9, [537002033, 27, 1198]), (14, 6, 0, 1, 0, []), (15, 37, 10, 0, 9, [55, 1201]), (18, 4, 0, 1, 1, []), (19, 50, 0, 0, 0, []), (20, 6, 0, 1, 0, []), (21, 39, 8, 0, 9, [553779249, 30, 1199]), (24, 6, 0, 1, 0, []), (25, 37, 10, 0, 9, [55, 1201]), (28, 4, 0, 1, 2, []), (29, 50, 0, 0, 0, []), (30, 6, 0, 1, 0, []), (31, 39, 9, 0, 9, [570556465, 33, 1200]), (34, 6, 0, 1, 0, []), (35, 37, 10, 0, 9, [55, 1201]), (38, 4, 0, 1, 3, []), (39, 50, 0, 0, 0, []), (40, 6, 0, 1, 0, []), (41, 35, 0, 0, 0, []), (42, 37, 10, 0, 9, [55, 1201]), (45, 1, 1, 0, 0, []), (46, 11, 0, 0, 0, []), (47, 42, 10, 0, 9, [55, 1201]), (50, 64, 0, 0, 0, [])]
def BX9_addTerm : List (List In) := [bX9_addTerm_0, bX9_addTerm_1]
set_option maxRecDepth 100000 in
theorem mkX9_addTerm : MkB 70 BX9_addTerm := MkB_of (by decide +kernel)
theorem lX9_addTerm : (sgD 70).2.2.1 = 4 := rfl
theorem eX9_addTerm_0 : BX9_addTerm.getD 0 [] = bX9_addTerm_0 := rfl
theorem eX9_addTerm_1 : BX9_addTerm.getD 1 [] = bX9_addTerm_1 := rfl
def bX9_bookSide_0 : List In := [(0, 6, 0, 1, 0, []), (1, 39, 0, 0, 9, [33685536, 36, 1187]), (4, 39, 8, 0, 4, [2114060772, 58, 1084]), (7, 6, 0, 1, 0, []), (8, 39, 4, 0, 9, [520224961, 18, 1192]), (11, 4, 0, 1, 1, []), (12, 45, 0, 0, 0, []), (13, 48, 0, 0, 0, []), (14, 63, 0, 0, 0, [])]
def BX9_bookSide : List (List In) := [bX9_bookSide_0]
set_option maxRecDepth 100000 in
theorem mkX9_bookSide : MkB 71 BX9_bookSide := MkB_of (by decide +kernel)
theorem lX9_bookSide : (sgD 71).2.2.1 = 2 := rfl
theorem eX9_bookSide_0 : BX9_bookSide.getD 0 [] = bX9_bookSide_0 := rfl
def bX0_insert_0 : List In := [(0, 4, 0, 1, 3, []), (1, 7, 0, 0, 4, []), (3, 4, 0, 1, 3, []), (4, 1, -1, 0, 0, []), (5, 56, 0, 0, 2, []), (8, 6, 0, 1, 0, []), (9, 38, 3, 0, 0, [80, 2022]), (12, 4, 0, 1, 3, []), (13, 65, 3037, 65, 2, [16, 0, 1]), (16, 55, 0, 0, 1, []), (19, 6, 0, 1, 0, []), (20, 40, 7, 0, 0, [671351265, 15, 2027]), (23, 4, 0, 1, 3, []), (24, 45, 0, 0, 0, []), (25, 4, 0, 1, 2, []), (26, 56, 0, 0, 2, []), (29, 58, 0, 0, 1, [])]
def bX0_insert_1 : List In := [(29, 6, 0, 1, 0, []), (30, 4, 0, 1, 2, []), (31, 75, 3063, 126, 2, [7, 0]), (34, 7, 0, 0, 4, []), (36, 58, 0, 0, 2, [])]
def bX0_insert_2 : List In := [(36, 6, 0, 1, 0, []), (37, 40, 7, 0, 0, [671351265, 15, 2027]), (40, 4, 0, 1, 1, []), (41, 4, 0, 1, 2, []), (42, 50, 0, 0, 0, []), (43, 6, 0, 1, 0, []), (44, 40, 8, 0, 0, [688128481, 18, 2029]), (47, 4, 0, 1, 1, []), (48, 4, 0, 0, 4, []), (50, 50, 0, 0, 0, []), (51, 4, 0, 0, 4, []), (53, 1, -1, 0, 0, []), (54, 56, 1, 0, 3, []), (57, 6, 0, 1, 0, []), (58, 40, 9, 0, 0, [704905697, 21, 2031]), (61, 4, 0, 1, 1, []), (62, 6, 0, 1, 0, []), (63, 40, 10, 0, 0, [721682921, 24, 2032]), (66, 4, 0, 1, 2, []), (67, 1, 1, 0, 0, []), (68, 11, 0, 0, 0, []), (69, 45, 0, 0, 0, []), (70, 50, 0, 0, 0, []), (71, 6, 0, 1, 0, []), (72, 40, 10, 0, 0, [721682921, 24, 2032]), (75, 4, 0, 1, 2, []), (76, 1, 1, 0, 0, []), (77, 11, 0, 0, 0, []), (78, 4, 0, 1, 1, []), (79, 50, 0, 0, 0, []), (80, 57, 0, 0, 4, [])]
def bX0_insert_3 : List In := [(83, 6, 0, 1, 0, []), (84, 40, 9, 0, 0, [704905697, 21, 2031]), (87, 4, 0, 1, 1, []), (88, 6, 0, 1, 0, []), (89, 40, 9, 0, 0, [704905697, 21, 2031]), (92, 4, 0, 0, 4, []), (94, 45, 0, 0, 0, []), (95, 50, 0, 0, 0, []), (96, 6, 0, 1, 0, []), (97, 40, 9, 0, 0, [704905697, 21, 2031]), (100, 4, 0, 0, 4, []), (102, 4, 0, 1, 1, []), (103, 50, 0, 0, 0, []), (104, 58, 0, 0, 4, [])]
def bX0_insert_4 : List In := [(104, 6, 0, 1, 0, []), (105, 40, 9, 0, 0, [704905697, 21, 2031]), (108, 4, 0, 1, 1, []), (109, 45, 0, 0, 0, []), (110, 1, -1, 0, 0, []), (111, 56, 0, 0, 5, []), (114, 6, 0, 1, 0, []), (115, 40, 8, 0, 0, [688128481, 18, 2029]), (118, 6, 0, 1, 0, []), (119, 40, 9, 0, 0, [704905697, 21, 2031]), (122, 4, 0, 1, 1, []), (123, 45, 0, 0, 0, []), (124, 4, 0, 1, 1, []), (125, 50, 0, 0, 0, []), (126, 58, 0, 0, 5, [])]
def bX0_insert_5 : List In := [(126, 64, 0, 0, 0, [])]
def BX0_insert : List (List In) := [bX0_insert_0, bX0_insert_1, bX0_insert_2, bX0_insert_3, bX0_insert_4, bX0_insert_5]
set_option maxRecDepth 100000 in
theorem mkX0_insert : MkB 73 BX0_insert := MkB_of (by decide +kernel)
theorem lX0_insert : (sgD 73).2.2.1 = 5 := rfl
theorem eX0_insert_0 : BX0_insert.getD 0 [] = bX0_insert_0 := rfl
theorem eX0_insert_1 : BX0_insert.getD 1 [] = bX0_insert_1 := rfl
theorem eX0_insert_2 : BX0_insert.getD 2 [] = bX0_insert_2 := rfl
theorem eX0_insert_3 : BX0_insert.getD 3 [] = bX0_insert_3 := rfl
theorem eX0_insert_4 : BX0_insert.getD 4 [] = bX0_insert_4 := rfl
theorem eX0_insert_5 : BX0_insert.getD 5 [] = bX0_insert_5 := rfl
def bX0_isSeen_0 : List In := [(0, 6, 0, 1, 0, []), (1, 38, 5, 0, 0, [156, 2024]), (4, 4, 0, 1, 1, []), (5, 65, 3037, 65, 2, [16, 0, 1]), (8, 61, 0, 0, 0, [])]
def BX0_isSeen : List (List In) := [bX0_isSeen_0]
set_option maxRecDepth 100000 in
theorem mkX0_isSeen : MkB 74 BX0_isSeen := MkB_of (by decide +kernel)
theorem lX0_isSeen : (sgD 74).2.2.1 = 2 := rfl
theorem eX0_isSeen_0 : BX0_isSeen.getD 0 [] = bX0_isSeen_0 := rfl
def bX0_isStruck_0 : List In := [(0, 6, 0, 1, 0, []), (1, 38, 4, 0, 0, [83, 2023]), (4, 4, 0, 1, 1, []), (5, 65, 3037, 65, 2, [16, 0, 1]), (8, 61, 0, 0, 0, [])]
def BX0_isStruck : List (List In) := [bX0_isStruck_0]
set_option maxRecDepth 100000 in
theorem mkX0_isStruck : MkB 75 BX0_isStruck := MkB_of (by decide +kernel)
theorem lX0_isStruck : (sgD 75).2.2.1 = 2 := rfl
theorem eX0_isStruck_0 : BX0_isStruck.getD 0 [] = bX0_isStruck_0 := rfl
def bX0_isThere_0 : List In := [(0, 6, 0, 1, 0, []), (1, 38, 3, 0, 0, [80, 2022]), (4, 4, 0, 1, 1, []), (5, 65, 3037, 65, 2, [16, 0, 1]), (8, 61, 0, 0, 0, [])]
def BX0_isThere : List (List In) := [bX0_isThere_0]
set_option maxRecDepth 100000 in
theorem mkX0_isThere : MkB 76 BX0_isThere := MkB_of (by decide +kernel)
theorem lX0_isThere : (sgD 76).2.2.1 = 2 := rfl
theorem eX0_isThere_0 : BX0_isThere.getD 0 [] = bX0_isThere_0 := rfl
def bX0_raiseUnlessFirm_0 : List In := [(0, 6, 0, 1, 0, []), (1, 37, 2, 0, 0, [50, 2021]), (4, 55, 1, 0, 1, []), (7, 6, 0, 1, 0, []), (8, 35, 0, 0, 0, []), (9, 38, 4, 0, 0, [83, 2023]), (12, 4, 0, 1, 1, []), (13, 67, 3056, 103, 1, [14, 0, 1]), (16, 2, -1, 1, 0, [124, 3075]), (19, 28, 0, 0, 0, []), (20, 26, 0, 0, 0, []), (21, 43, 4, 0, 0, [83, 2023]), (24, 58, 0, 0, 1, [])]
def bX0_raiseUnlessFirm_1 : List In := [(24, 64, 0, 0, 0, [])]
def BX0_raiseUnlessFirm : List (List In) := [bX0_raiseUnlessFirm_0, bX0_raiseUnlessFirm_1]
set_option maxRecDepth 100000 in
theorem mkX0_raiseUnlessFirm : MkB 77 BX0_raiseUnlessFirm := MkB_of (by decide +kernel)
theorem lX0_raiseUnlessFirm : (sgD 77).2.2.1 = 2 := rfl
theorem eX0_raiseUnlessFirm_0 : BX0_raiseUnlessFirm.getD 0 [] = bX0_raiseUnlessFirm_0 := rfl
theorem eX0_raiseUnlessFirm_1 : BX0_raiseUnlessFirm.getD 1 [] = bX0_raiseUnlessFirm_1 := rfl
def bX1_breakUp_0 : List In := [(0, 6, 0, 1, 0, []), (1, 40, 1, 0, 1, [939786321, 15, 2097]), (4, 6, 0, 1, 0, []), (5, 37, 3, 0, 1, [21, 2100]), (8, 1, 0, 0, 0, []), (9, 50, 0, 0, 0, []), (10, 6, 0, 1, 0, []), (11, 37, 3, 0, 1, [21, 2100]), (14, 1, 1, 0, 0, []), (15, 12, 0, 0, 0, []), (16, 7, 0, 1, 2, []), (17, 58, 0, 0, 1001, [])]
def bX1_breakUp_1 : List In := [(17, 4, 0, 1, 2, []), (18, 55, 2, 0, 2, []), (21, 6, 0, 1, 0, []), (22, 4, 0, 1, 2, []), (23, 4, 0, 1, 1, []), (24, 79, 5003, 31, 3, [48, 1]), (27, 10, -1, 0, 2, []), (30, 57, 0, 0, 1001, [])]
def bX1_breakUp_2 : List In := [(33, 64, 0, 0, 0, [])]
def BX1_breakUp : List (List In) := [bX1_breakUp_0, bX1_breakUp_1, bX1_breakUp_2]
set_option maxRecDepth 100000 in
theorem mkX1_breakUp : MkB 110 BX1_breakUp := MkB_of (by decide +kernel)
theorem lX1_breakUp : (sgD 110).2.2.1 = 3 := rfl
theorem eX1_breakUp_0 : BX1_breakUp.getD 0 [] = bX1_breakUp_0 := rfl
theorem eX1_breakUp_1 : BX1_breakUp.getD 1 [] = bX1_breakUp_1 := rfl
theorem eX1_breakUp_2 : BX1_breakUp.getD 2 [] = bX1_breakUp_2 := rfl
def bX3_areRowsAlike_0 : List In := [(0, 6, 0, 1, 1, []), (1, 37, 1, 0, 6, [22, 1049]), (4, 6, 0, 1, 2, []), (5, 37, 1, 0, 6, [22, 1049]), (8, 56, 1, 0, 1, []), (11, 6, 0, 1, 0, []), (12, 6, 0, 1, 1, []), (13, 6, 0, 1, 2, []), (14, 1, 0, 0, 0, []), (15, 75, 4107, 25, 4, [53, 3]), (18, 55, 0, 0, 1, []), (21, 1, 1, 0, 0, []), (22, 57, 0, 0, 2, [])]
def bX3_areRowsAlike_1 : List In := [(25, 1, 0, 0, 0, []), (26, 58, 0, 0, 2, [])]
def bX3_areRowsAlike_2 : List In := [(26, 61, 0, 0, 0, [])]
def BX3_areRowsAlike : List (List In) := [bX3_areRowsAlike_0, bX3_areRowsAlike_1, bX3_areRowsAlike_2]
set_option maxRecDepth 100000 in
theorem mkX3_areRowsAlike : MkB 112 BX3_areRowsAlike := MkB_of (by decide +kernel)
theorem lX3_areRowsAlike : (sgD 112).2.2.1 = 3 := rfl
theorem eX3_areRowsAlike_0 : BX3_areRowsAlike.getD 0 [] = bX3_areRowsAlike_0 := rfl
theorem eX3_areRowsAlike_1 : BX3_areRowsAlike.getD 1 [] = bX3_areRowsAlike_1 := rfl
theorem eX3_areRowsAlike_2 : BX3_areRowsAlike.getD 2 [] = bX3_areRowsAlike_2 := rfl
def bX3_costOf_0 : List In := [(0, 1, 0, 0, 0, []), (1, 7, 0, 1, 3, []), (2, 58, 0, 0, 1001, [])]
def bX3_costOf_1 : List In := [(2, 4, 0, 1, 3, []), (3, 6, 0, 1, 2, []), (4, 37, 1, 0, 6, [22, 1049]), (7, 56, 4, 0, 2, []), (10, 6, 0, 1, 0, []), (11, 39, 1, 0, 3, [402784329, 15, 1130]), (14, 4, 0, 1, 3, []), (15, 4, 0, 1, 3, []), (16, 50, 0, 0, 0, []), (17, 10, 1, 0, 3, []), (20, 57, 0, 0, 1001, [])]
def bX3_costOf_2 : List In := [(23, 1, 0, 0, 0, []), (24, 7, 0, 1, 3, []), (25, 58, 0, 0, 1003, [])]
def bX3_costOf_3 : List In := [(25, 4, 0, 1, 3, []), (26, 6, 0, 1, 1, []), (27, 37, 1, 0, 6, [22, 1049]), (30, 56, 3, 0, 8, []), (33, 6, 0, 1, 0, []), (34, 39, 1, 0, 3, [402784329, 15, 1130]), (37, 1, 0, 0, 0, []), (38, 45, 0, 0, 0, []), (39, 7, 0, 0, 4, []), (41, 6, 0, 1, 0, []), (42, 39, 1, 0, 3, [402784329, 15, 1130]), (45, 1, 0, 0, 0, []), (46, 4, 0, 1, 3, []), (47, 1, 1, 0, 0, []), (48, 11, 0, 0, 0, []), (49, 50, 0, 0, 0, []), (50, 1, 0, 0, 0, []), (51, 7, 0, 0, 5, []), (53, 58, 0, 0, 1004, [])]
def bX3_costOf_4 : List In := [(53, 4, 0, 0, 5, []), (55, 6, 0, 1, 2, []), (56, 37, 1, 0, 6, [22, 1049]), (59, 56, 3, 0, 7, []), (62, 4, 0, 0, 4, []), (64, 6, 0, 1, 0, []), (65, 39, 0, 0, 3, [386007841, 9, 1129]), (68, 6, 0, 1, 1, []), (69, 41, 0, 0, 6, [0, 29, 1043]), (72, 4, 0, 1, 3, []), (73, 45, 0, 0, 0, []), (74, 45, 0, 0, 0, []), (75, 6, 0, 1, 0, []), (76, 39, 0, 0, 3, [386007841, 9, 1129]), (79, 6, 0, 1, 2, []), (80, 41, 0, 0, 6, [0, 29, 1043]), (83, 4, 0, 0, 5, []), (85, 45, 0, 0, 0, []), (86, 45, 0, 0, 0, []), (87, 56, 1, 0, 5, []), (90, 1, 0, 0, 0, []), (91, 57, 0, 0, 6, [])]
def bX3_costOf_5 : List In := [(94, 1, 2, 0, 0, []), (95, 58, 0, 0, 6, [])]
def bX3_costOf_6 : List In := [(95, 11, 0, 0, 0, []), (96, 7, 0, 0, 6, []), (98, 6, 0, 1, 0, []), (99, 39, 1, 0, 3, [402784329, 15, 1130]), (102, 4, 0, 0, 5, []), (104, 1, 1, 0, 0, []), (105, 11, 0, 0, 0, []), (106, 45, 0, 0, 0, []), (107, 7, 0, 0, 4, []), (109, 6, 0, 1, 0, []), (110, 39, 1, 0, 3, [402784329, 15, 1130]), (113, 4, 0, 0, 5, []), (115, 1, 1, 0, 0, []), (116, 11, 0, 0, 0, []), (117, 4, 0, 0, 6, []), (119, 1, 1, 0, 0, []), (120, 6, 0, 1, 0, []), (121, 39, 1, 0, 3, [402784329, 15, 1130]), (124, 4, 0, 0, 5, []), (126, 45, 0, 0, 0, []), (127, 6, 0, 1, 0, []), (128, 39, 1, 0, 3, [402784329, 15, 1130]), (131, 4, 0, 0, 5, []), (133, 1, 1, 0, 0, []), (134, 11, 0, 0, 0, []), (135, 45, 0, 0, 0, []), (136, 73, 4159, 32, 0, []), (139, 11, 0, 0, 0, []), (140, 73, 4159, 32, 0, []), (143, 50, 0, 0, 0, []), (144, 10, 1, 0, 5, []), (147, 57, 0, 0, 1004, [])]
def bX3_costOf_7 : List In := [(150, 10, 1, 0, 3, []), (153, 57, 0, 0, 1003, [])]
def bX3_costOf_8 : List In := [(156, 6, 0, 1, 0, []), (157, 39, 1, 0, 3, [402784329, 15, 1130]), (160, 6, 0, 1, 2, []), (161, 37, 1, 0, 6, [22, 1049]), (164, 45, 0, 0, 0, []), (165, 60, 0, 0, 0, [])]
def BX3_costOf : List (List In) := [bX3_costOf_0, bX3_costOf_1, bX3_costOf_2, bX3_costOf_3, bX3_costOf_4, bX3_costOf_5, bX3_costOf_6, bX3_costOf_7, bX3_costOf_8]
set_option maxRecDepth 100000 in
theorem mkX3_costOf : MkB 113 BX3_costOf := MkB_of (by decide +kernel)
theorem lX3_costOf : (sgD 113).2.2.1 = 7 := rfl
theorem eX3_costOf_0 : BX3_costOf.getD 0 [] = bX3_costOf_0 := rfl
theorem eX3_costOf_1 : BX3_costOf.getD 1 [] = bX3_costOf_1 := rfl
theorem eX3_costOf_2 : BX3_costOf.getD 2 [] = bX3_costOf_2 := rfl
theorem eX3_costOf_3 : BX3_costOf.getD 3 [] = bX3_costOf_3 := rfl
theorem eX3_costOf_4 : BX3_costOf.getD 4 [] = bX3_costOf_4 := rfl
theorem eX3_costOf_5 : BX3_costOf.getD 5 [] = bX3_costOf_5 := rfl
theorem eX3_costOf_6 : BX3_costOf.getD 6 [] = bX3_costOf_6 := rfl
theorem eX3_costOf_7 : BX3_costOf.getD 7 [] = bX3_costOf_7 := rfl
theorem eX3_costOf_8 : BX3_costOf.getD 8 [] = bX3_costOf_8 := rfl
def bX4_aheadOf_0 : List In := [(0, 2, 0, 0, 0, []), (1, 8, 0, 0, 4, []), (3, 1, 0, 0, 0, []), (4, 7, 0, 0, 6, []), (6, 58, 0, 0, 1001, [])]
def bX4_aheadOf_1 : List In := [(6, 4, 0, 0, 6, []), (8, 6, 0, 1, 0, []), (9, 37, 11, 0, 4, [52, 1093]), (12, 56, 3, 0, 2, []), (15, 6, 0, 1, 0, []), (16, 39, 10, 0, 4, [369230305, 49, 1090]), (19, 4, 0, 0, 6, []), (21, 45, 0, 0, 0, []), (22, 4, 0, 1, 1, []), (23, 56, 0, 0, 2, []), (26, 5, 0, 0, 4, []), (28, 5, 0, 1, 2, []), (29, 6, 0, 1, 0, []), (30, 39, 10, 0, 4, [369230305, 49, 1090]), (33, 4, 0, 0, 6, []), (35, 45, 0, 0, 0, []), (36, 67, 3202, 77, 1, [14, 0, 1]), (39, 26, 0, 0, 0, []), (40, 27, 0, 0, 0, []), (41, 8, 0, 0, 4, []), (43, 10, 1, 0, 6, []), (46, 57, 0, 0, 1001, [])]
def bX4_aheadOf_2 : List In := [(49, 5, 0, 0, 4, []), (51, 62, 0, 0, 0, [])]
def BX4_aheadOf : List (List In) := [bX4_aheadOf_0, bX4_aheadOf_1, bX4_aheadOf_2]
set_option maxRecDepth 100000 in
theorem mkX4_aheadOf : MkB 115 BX4_aheadOf := MkB_of (by decide +kernel)
theorem lX4_aheadOf : (sgD 115).2.2.1 = 7 := rfl
theorem eX4_aheadOf_0 : BX4_aheadOf.getD 0 [] = bX4_aheadOf_0 := rfl
theorem eX4_aheadOf_1 : BX4_aheadOf.getD 1 [] = bX4_aheadOf_1 := rfl
theorem eX4_aheadOf_2 : BX4_aheadOf.getD 2 [] = bX4_aheadOf_2 := rfl
def bX4_fileByStamp_0 : List In := [(0, 6, 0, 1, 0, []), (1, 37, 11, 0, 4, [52, 1093]), (4, 7, 0, 1, 2, []), (5, 58, 0, 0, 1001, [])]
def bX4_fileByStamp_1 : List In := [(5, 4, 0, 1, 2, []), (6, 55, 5, 0, 2, []), (9, 6, 0, 1, 0, []), (10, 4, 0, 1, 1, []), (11, 6, 0, 1, 0, []), (12, 39, 10, 0, 4, [369230305, 49, 1090]), (15, 4, 0, 1, 2, []), (16, 1, 1, 0, 0, []), (17, 12, 0, 0, 0, []), (18, 45, 0, 0, 0, []), (19, 75, 3136, 73, 3, [54, 4]), (22, 55, 0, 0, 2, []), (25, 6, 0, 1, 0, []), (26, 39, 10, 0, 4, [369230305, 49, 1090]), (29, 4, 0, 1, 2, []), (30, 6, 0, 1, 0, []), (31, 39, 10, 0, 4, [369230305, 49, 1090]), (34, 4, 0, 1, 2, []), (35, 1, 1, 0, 0, []), (36, 12, 0, 0, 0, []), (37, 45, 0, 0, 0, []), (38, 50, 0, 0, 0, []), (39, 10, -1, 0, 2, []), (42, 57, 0, 0, 1001, [])]
def bX4_fileByStamp_2 : List In := [(45, 6, 0, 1, 0, []), (46, 39, 10, 0, 4, [369230305, 49, 1090]), (49, 4, 0, 1, 2, []), (50, 4, 0, 1, 1, []), (51, 50, 0, 0, 0, []), (52, 64, 0, 0, 0, [])]
def BX4_fileByStamp : List (List In) := [bX4_fileByStamp_0, bX4_fileByStamp_1, bX4_fileByStamp_2]
set_option maxRecDepth 100000 in
theorem mkX4_fileByStamp : MkB 116 BX4_fileByStamp := MkB_of (by decide +kernel)
theorem lX4_fileByStamp : (sgD 116).2.2.1 = 3 := rfl
theorem eX4_fileByStamp_0 : BX4_fileByStamp.getD 0 [] = bX4_fileByStamp_0 := rfl
theorem eX4_fileByStamp_1 : BX4_fileByStamp.getD 1 [] = bX4_fileByStamp_1 := rfl
theorem eX4_fileByStamp_2 : BX4_fileByStamp.getD 2 [] = bX4_fileByStamp_2 := rfl
def bX4_kindsUpon_0 : List In := [(0, 1, 0, 0, 0, []), (1, 7, 0, 0, 4, []), (3, 1, 0, 0, 0, []), (4, 7, 0, 0, 5, []), (6, 58, 0, 0, 1001, [])]
def bX4_kindsUpon_1 : List In := [(6, 4, 0, 0, 5, []), (8, 6, 0, 1, 0, []), (9, 37, 11, 0, 4, [52, 1093]), (12, 56, 3, 0, 3, []), (15, 6, 0, 1, 0, []), (16, 39, 3, 0, 4, [285344225, 21, 1067]), (19, 4, 0, 0, 5, []), (21, 45, 0, 0, 0, []), (22, 4, 0, 1, 1, []), (23, 56, 1, 0, 2, []), (26, 5, 0, 1, 2, []), (27, 4, 0, 0, 5, []), (29, 65, 3130, 63, 2, [16, 0, 1]), (32, 55, 0, 0, 2, []), (35, 4, 0, 0, 4, []), (37, 1, 1, 0, 0, []), (38, 6, 0, 1, 0, []), (39, 39, 0, 0, 4, [235012577, 9, 1060]), (42, 4, 0, 0, 5, []), (44, 45, 0, 0, 0, []), (45, 20, 0, 0, 0, []), (46, 18, 0, 0, 0, []), (47, 7, 0, 0, 4, []), (49, 58, 0, 0, 2, [])]
def bX4_kindsUpon_2 : List In := [(49, 10, 1, 0, 5, []), (52, 57, 0, 0, 1001, [])]
def bX4_kindsUpon_3 : List In := [(55, 4, 0, 0, 4, []), (57, 60, 0, 0, 0, [])]
def BX4_kindsUpon : List (List In) := [bX4_kindsUpon_0, bX4_kindsUpon_1, bX4_kindsUpon_2, bX4_kindsUpon_3]
set_option maxRecDepth 100000 in
theorem mkX4_kindsUpon : MkB 118 BX4_kindsUpon := MkB_of (by decide +kernel)
theorem lX4_kindsUpon : (sgD 118).2.2.1 = 6 := rfl
theorem eX4_kindsUpon_0 : BX4_kindsUpon.getD 0 [] = bX4_kindsUpon_0 := rfl
theorem eX4_kindsUpon_1 : BX4_kindsUpon.getD 1 [] = bX4_kindsUpon_1 := rfl
theorem eX4_kindsUpon_2 : BX4_kindsUpon.getD 2 [] = bX4_kindsUpon_2 := rfl
theorem eX4_kindsUpon_3 : BX4_kindsUpon.getD 3 [] = bX4_kindsUpon_3 := rfl
def bX6_add_0 : List In := [(0, 6, 0, 1, 0, []), (1, 75, 3012, 23, 1, [62, 6]), (4, 55, 0, 0, 1, []), (7, 64, 0, 0, 0, [])]
def bX6_add_1 : List In := [(8, 6, 0, 1, 0, []), (9, 41, 0, 0, 6, [0, 13, 1041]), (12, 6, 0, 1, 0, []), (13, 37, 1, 0, 6, [19, 1046]), (16, 4, 0, 1, 1, []), (17, 50, 0, 0, 0, []), (18, 6, 0, 1, 0, []), (19, 35, 0, 0, 0, []), (20, 37, 1, 0, 6, [19, 1046]), (23, 1, 1, 0, 0, []), (24, 11, 0, 0, 0, []), (25, 42, 1, 0, 6, [19, 1046]), (28, 64, 0, 0, 0, [])]
def BX6_add : List (List In) := [bX6_add_0, bX6_add_1]
set_option maxRecDepth 100000 in
theorem mkX6_add : MkB 120 BX6_add := MkB_of (by decide +kernel)
theorem lX6_add : (sgD 120).2.2.1 = 2 := rfl
theorem eX6_add_0 : BX6_add.getD 0 [] = bX6_add_0 := rfl
theorem eX6_add_1 : BX6_add.getD 1 [] = bX6_add_1 := rfl
def bX6_sameFromFirst_0 : List In := [(0, 6, 0, 1, 0, []), (1, 37, 1, 0, 6, [19, 1046]), (4, 6, 0, 1, 1, []), (5, 37, 1, 0, 6, [19, 1046]), (8, 73, 3088, 42, 0, []), (11, 7, 0, 1, 2, []), (12, 1, 0, 0, 0, []), (13, 7, 0, 1, 3, []), (14, 58, 0, 0, 1001, [])]
def bX6_sameFromFirst_1 : List In := [(14, 4, 0, 1, 3, []), (15, 4, 0, 1, 2, []), (16, 56, 3, 0, 2, []), (19, 6, 0, 1, 0, []), (20, 41, 0, 0, 6, [0, 13, 1041]), (23, 4, 0, 1, 3, []), (24, 45, 0, 0, 0, []), (25, 6, 0, 1, 1, []), (26, 41, 0, 0, 6, [0, 13, 1041]), (29, 4, 0, 1, 3, []), (30, 45, 0, 0, 0, []), (31, 56, 1, 0, 2, []), (34, 10, 1, 0, 3, []), (37, 57, 0, 0, 1001, [])]
def bX6_sameFromFirst_2 : List In := [(40, 4, 0, 1, 3, []), (41, 60, 0, 0, 0, [])]
def BX6_sameFromFirst : List (List In) := [bX6_sameFromFirst_0, bX6_sameFromFirst_1, bX6_sameFromFirst_2]
set_option maxRecDepth 100000 in
theorem mkX6_sameFromFirst : MkB 122 BX6_sameFromFirst := MkB_of (by decide +kernel)
theorem lX6_sameFromFirst : (sgD 122).2.2.1 = 4 := rfl
theorem eX6_sameFromFirst_0 : BX6_sameFromFirst.getD 0 [] = bX6_sameFromFirst_0 := rfl
theorem eX6_sameFromFirst_1 : BX6_sameFromFirst.getD 1 [] = bX6_sameFromFirst_1 := rfl
theorem eX6_sameFromFirst_2 : BX6_sameFromFirst.getD 2 [] = bX6_sameFromFirst_2 := rfl
def bX6_sameFromLast_0 : List In := [(0, 6, 0, 1, 0, []), (1, 37, 1, 0, 6, [19, 1046]), (4, 6, 0, 1, 1, []), (5, 37, 1, 0, 6, [19, 1046]), (8, 73, 3088, 42, 0, []), (11, 4, 0, 1, 2, []), (12, 12, 0, 0, 0, []), (13, 7, 0, 1, 3, []), (14, 1, 0, 0, 0, []), (15, 7, 0, 0, 4, []), (17, 58, 0, 0, 1001, [])]
def bX6_sameFromLast_1 : List In := [(17, 4, 0, 0, 4, []), (19, 4, 0, 1, 3, []), (20, 56, 3, 0, 2, []), (23, 6, 0, 1, 0, []), (24, 41, 0, 0, 6, [0, 13, 1041]), (27, 6, 0, 1, 0, []), (28, 37, 1, 0, 6, [19, 1046]), (31, 1, 1, 0, 0, []), (32, 12, 0, 0, 0, []), (33, 4, 0, 0, 4, []), (35, 12, 0, 0, 0, []), (36, 45, 0, 0, 0, []), (37, 6, 0, 1, 1, []), (38, 41, 0, 0, 6, [0, 13, 1041]), (41, 6, 0, 1, 1, []), (42, 37, 1, 0, 6, [19, 1046]), (45, 1, 1, 0, 0, []), (46, 12, 0, 0, 0, []), (47, 4, 0, 0, 4, []), (49, 12, 0, 0, 0, []), (50, 45, 0, 0, 0, []), (51, 56, 1, 0, 2, []), (54, 10, 1, 0, 4, []), (57, 57, 0, 0, 1001, [])]
def bX6_sameFromLast_2 : List In := [(60, 4, 0, 0, 4, []), (62, 60, 0, 0, 0, [])]
def BX6_sameFromLast : List (List In) := [bX6_sameFromLast_0, bX6_sameFromLast_1, bX6_sameFromLast_2]
set_option maxRecDepth 100000 in
theorem mkX6_sameFromLast : MkB 123 BX6_sameFromLast := MkB_of (by decide +kernel)
theorem lX6_sameFromLast : (sgD 123).2.2.1 = 5 := rfl
theorem eX6_sameFromLast_0 : BX6_sameFromLast.getD 0 [] = bX6_sameFromLast_0 := rfl
theorem eX6_sameFromLast_1 : BX6_sameFromLast.getD 1 [] = bX6_sameFromLast_1 := rfl
theorem eX6_sameFromLast_2 : BX6_sameFromLast.getD 2 [] = bX6_sameFromLast_2 := rfl
def bX7_isSaidInLine_0 : List In := [(0, 1, 0, 0, 0, []), (1, 7, 0, 0, 4, []), (3, 1, 0, 0, 0, []), (4, 7, 0, 0, 5, []), (6, 58, 0, 0, 1001, [])]
def bX7_isSaidInLine_1 : List In := [(6, 4, 0, 0, 5, []), (8, 4, 0, 1, 3, []), (9, 56, 3, 0, 2, []), (12, 4, 0, 0, 4, []), (14, 6, 0, 1, 0, []), (15, 40, 11, 0, 7, [906236129, 47, 2148]), (18, 4, 0, 1, 2, []), (19, 1, 9, 1, 0, []), (21, 13, 0, 0, 0, []), (22, 4, 0, 0, 5, []), (24, 11, 0, 0, 0, []), (25, 45, 0, 0, 0, []), (26, 11, 0, 0, 0, []), (27, 7, 0, 0, 4, []), (29, 10, 1, 0, 5, []), (32, 57, 0, 0, 1001, [])]
def bX7_isSaidInLine_2 : List In := [(35, 4, 0, 0, 4, []), (37, 6, 0, 1, 0, []), (38, 40, 11, 0, 7, [906236129, 47, 2148]), (41, 4, 0, 1, 2, []), (42, 1, 9, 1, 0, []), (44, 13, 0, 0, 0, []), (45, 4, 0, 1, 3, []), (46, 11, 0, 0, 0, []), (47, 45, 0, 0, 0, []), (48, 11, 0, 0, 0, []), (49, 6, 0, 1, 0, []), (50, 40, 5, 0, 7, [2164523493, 27, 2138]), (53, 4, 0, 1, 2, []), (54, 48, 0, 0, 0, []), (55, 37, 1, 0, 6, [190, 1053]), (58, 73, 5061, 191, 0, []), (61, 7, 0, 0, 5, []), (63, 4, 0, 0, 4, []), (65, 7, 0, 0, 6, []), (67, 58, 0, 0, 1003, [])]
def bX7_isSaidInLine_3 : List In := [(67, 4, 0, 0, 6, []), (69, 4, 0, 0, 5, []), (71, 56, 3, 0, 5, []), (74, 6, 0, 1, 0, []), (75, 40, 5, 0, 7, [2164523493, 27, 2138]), (78, 4, 0, 1, 2, []), (79, 48, 0, 0, 0, []), (80, 41, 0, 0, 6, [0, 197, 1044]), (83, 4, 0, 0, 6, []), (85, 45, 0, 0, 0, []), (86, 4, 0, 1, 1, []), (87, 56, 1, 0, 4, []), (90, 1, 1, 0, 0, []), (91, 61, 0, 0, 0, [])]
def bX7_isSaidInLine_4 : List In := [(92, 10, 1, 0, 6, []), (95, 57, 0, 0, 1003, [])]
def bX7_isSaidInLine_5 : List In := [(98, 1, 0, 0, 0, []), (99, 61, 0, 0, 0, [])]
def BX7_isSaidInLine : List (List In) := [bX7_isSaidInLine_0, bX7_isSaidInLine_1, bX7_isSaidInLine_2, bX7_isSaidInLine_3, bX7_isSaidInLine_4, bX7_isSaidInLine_5]
set_option maxRecDepth 100000 in
theorem mkX7_isSaidInLine : MkB 124 BX7_isSaidInLine := MkB_of (by decide +kernel)
theorem lX7_isSaidInLine : (sgD 124).2.2.1 = 7 := rfl
theorem eX7_isSaidInLine_0 : BX7_isSaidInLine.getD 0 [] = bX7_isSaidInLine_0 := rfl
theorem eX7_isSaidInLine_1 : BX7_isSaidInLine.getD 1 [] = bX7_isSaidInLine_1 := rfl
theorem eX7_isSaidInLine_2 : BX7_isSaidInLine.getD 2 [] = bX7_isSaidInLine_2 := rfl
theorem eX7_isSaidInLine_3 : BX7_isSaidInLine.getD 3 [] = bX7_isSaidInLine_3 := rfl
theorem eX7_isSaidInLine_4 : BX7_isSaidInLine.getD 4 [] = bX7_isSaidInLine_4 := rfl
theorem eX7_isSaidInLine_5 : BX7_isSaidInLine.getD 5 [] = bX7_isSaidInLine_5 := rfl
def bX0_hasSay_0 : List In := [(0, 6, 0, 1, 0, []), (1, 38, 1, 0, 0, [46, 2020]), (4, 4, 0, 1, 1, []), (5, 65, 3037, 65, 2, [16, 0, 1]), (8, 55, 1, 0, 1, []), (11, 1, 0, 0, 0, []), (12, 61, 0, 0, 0, [])]
def bX0_hasSay_1 : List In := [(13, 6, 0, 1, 0, []), (14, 39, 0, 0, 0, [33685536, 42, 2019]), (17, 39, 0, 0, 4, [235012577, 86, 1061]), (20, 4, 0, 1, 1, []), (21, 45, 0, 0, 0, []), (22, 7, 0, 1, 2, []), (23, 4, 0, 1, 2, []), (24, 55, 1, 0, 4, []), (27, 6, 0, 1, 0, []), (28, 4, 0, 1, 1, []), (29, 75, 3044, 95, 2, [76, 0]), (32, 55, 0, 0, 2, []), (35, 6, 0, 1, 0, []), (36, 4, 0, 1, 1, []), (37, 75, 3102, 162, 2, [75, 0]), (40, 55, 1, 0, 2, []), (43, 1, 1, 0, 0, []), (44, 57, 0, 0, 3, [])]
def bX0_hasSay_2 : List In := [(47, 1, 0, 0, 0, []), (48, 58, 0, 0, 3, [])]
def bX0_hasSay_3 : List In := [(48, 61, 0, 0, 0, [])]
def bX0_hasSay_4 : List In := [(49, 4, 0, 1, 2, []), (50, 1, 6, 1, 0, []), (52, 56, 0, 0, 5, []), (55, 6, 0, 1, 0, []), (56, 40, 6, 0, 0, [654574049, 9, 2025]), (59, 4, 0, 1, 1, []), (60, 45, 0, 0, 0, []), (61, 55, 0, 0, 6, []), (64, 58, 0, 0, 5, [])]
def bX0_hasSay_5 : List In := [(64, 1, 0, 0, 0, []), (65, 61, 0, 0, 0, [])]
def bX0_hasSay_6 : List In := [(66, 6, 0, 1, 0, []), (67, 39, 0, 0, 0, [33685536, 42, 2019]), (70, 37, 11, 0, 4, [57, 1094]), (73, 1, 1, 0, 0, []), (74, 12, 0, 0, 0, []), (75, 7, 0, 1, 3, []), (76, 58, 0, 0, 1007, [])]
def bX0_hasSay_7 : List In := [(76, 4, 0, 1, 3, []), (77, 55, 2, 0, 11, []), (80, 6, 0, 1, 0, []), (81, 39, 0, 0, 0, [33685536, 42, 2019]), (84, 39, 10, 0, 4, [369230305, 62, 1091]), (87, 4, 0, 1, 3, []), (88, 45, 0, 0, 0, []), (89, 7, 0, 0, 4, []), (91, 6, 0, 1, 0, []), (92, 38, 1, 0, 0, [46, 2020]), (95, 4, 0, 0, 4, []), (97, 65, 3037, 65, 2, [16, 0, 1]), (100, 55, 0, 0, 10, []), (103, 6, 0, 1, 0, []), (104, 39, 0, 0, 0, [33685536, 42, 2019]), (107, 39, 3, 0, 4, [285344225, 89, 1068]), (110, 4, 0, 0, 4, []), (112, 45, 0, 0, 0, []), (113, 6, 0, 1, 0, []), (114, 39, 0, 0, 0, [33685536, 42, 2019]), (117, 39, 3, 0, 4, [285344225, 89, 1068]), (120, 4, 0, 1, 1, []), (121, 45, 0, 0, 0, []), (122, 56, 1, 0, 10, []), (125, 6, 0, 1, 0, []), (126, 4, 0, 1, 2, []), (127, 4, 0, 0, 4, []), (129, 75, 3194, 180, 3, [5, 0]), (132, 55, 0, 0, 10, []), (135, 4, 0, 0, 4, []), (137, 4, 0, 1, 1, []), (138, 56, 1, 0, 8, []), (141, 1, 1, 0, 0, []), (142, 57, 0, 0, 9, [])]
def bX0_hasSay_8 : List In := [(145, 1, 0, 0, 0, []), (146, 58, 0, 0, 9, [])]
def bX0_hasSay_9 : List In := [(146, 61, 0, 0, 0, [])]
def bX0_hasSay_10 : List In := [(147, 10, -1, 0, 3, []), (150, 57, 0, 0, 1007, [])]
def bX0_hasSay_11 : List In := [(153, 1, 0, 0, 0, []), (154, 61, 0, 0, 0, [])]
def BX0_hasSay : List (List In) := [bX0_hasSay_0, bX0_hasSay_1, bX0_hasSay_2, bX0_hasSay_3, bX0_hasSay_4, bX0_hasSay_5, bX0_hasSay_6, bX0_hasSay_7, bX0_hasSay_8, bX0_hasSay_9, bX0_hasSay_10, bX0_hasSay_11]
set_option maxRecDepth 100000 in
theorem mkX0_hasSay : MkB 126 BX0_hasSay := MkB_of (by decide +kernel)
theorem lX0_hasSay : (sgD 126).2.2.1 = 5 := rfl
theorem eX0_hasSay_0 : BX0_hasSay.getD 0 [] = bX0_hasSay_0 := rfl
theorem eX0_hasSay_1 : BX0_hasSay.getD 1 [] = bX0_hasSay_1 := rfl
theorem eX0_hasSay_2 : BX0_hasSay.getD 2 [] = bX0_hasSay_2 := rfl
theorem eX0_hasSay_3 : BX0_hasSay.getD 3 [] = bX0_hasSay_3 := rfl
theorem eX0_hasSay_4 : BX0_hasSay.getD 4 [] = bX0_hasSay_4 := rfl
theorem eX0_hasSay_5 : BX0_hasSay.getD 5 [] = bX0_hasSay_5 := rfl
theorem eX0_hasSay_6 : BX0_hasSay.getD 6 [] = bX0_hasSay_6 := rfl
theorem eX0_hasSay_7 : BX0_hasSay.getD 7 [] = bX0_hasSay_7 := rfl
theorem eX0_hasSay_8 : BX0_hasSay.getD 8 [] = bX0_hasSay_8 := rfl
theorem eX0_hasSay_9 : BX0_hasSay.getD 9 [] = bX0_hasSay_9 := rfl
theorem eX0_hasSay_10 : BX0_hasSay.getD 10 [] = bX0_hasSay_10 := rfl
theorem eX0_hasSay_11 : BX0_hasSay.getD 11 [] = bX0_hasSay_11 := rfl
def bX0_isPlace_0 : List In := [(0, 4, 0, 1, 1, []), (1, 1, -1, 0, 0, []), (2, 56, 0, 0, 1, []), (5, 6, 0, 1, 0, []), (6, 4, 0, 1, 1, []), (7, 75, 3044, 95, 2, [76, 0]), (10, 55, 0, 0, 2, []), (13, 6, 0, 1, 0, []), (14, 39, 0, 0, 0, [33685536, 42, 2019]), (17, 39, 6, 0, 4, [335675873, 168, 1079]), (20, 4, 0, 1, 1, []), (21, 45, 0, 0, 0, []), (22, 55, 1, 0, 2, []), (25, 58, 0, 0, 1, [])]
def bX0_isPlace_1 : List In := [(25, 1, 1, 0, 0, []), (26, 57, 0, 0, 3, [])]
def bX0_isPlace_2 : List In := [(29, 1, 0, 0, 0, []), (30, 58, 0, 0, 3, [])]
def bX0_isPlace_3 : List In := [(30, 61, 0, 0, 0, [])]
def BX0_isPlace : List (List In) := [bX0_isPlace_0, bX0_isPlace_1, bX0_isPlace_2, bX0_isPlace_3]
set_option maxRecDepth 100000 in
theorem mkX0_isPlace : MkB 127 BX0_isPlace := MkB_of (by decide +kernel)
theorem lX0_isPlace : (sgD 127).2.2.1 = 2 := rfl
theorem eX0_isPlace_0 : BX0_isPlace.getD 0 [] = bX0_isPlace_0 := rfl
theorem eX0_isPlace_1 : BX0_isPlace.getD 1 [] = bX0_isPlace_1 := rfl
theorem eX0_isPlace_2 : BX0_isPlace.getD 2 [] = bX0_isPlace_2 := rfl
theorem eX0_isPlace_3 : BX0_isPlace.getD 3 [] = bX0_isPlace_3 := rfl
def bX0_isSentence_0 : List In := [(0, 6, 0, 1, 0, []), (1, 4, 0, 1, 1, []), (2, 75, 3044, 95, 2, [76, 0]), (5, 55, 0, 0, 1, []), (8, 6, 0, 1, 0, []), (9, 39, 0, 0, 0, [33685536, 42, 2019]), (12, 39, 6, 0, 4, [335675873, 168, 1079]), (15, 4, 0, 1, 1, []), (16, 45, 0, 0, 0, []), (17, 1, 1, 0, 0, []), (18, 56, 1, 0, 1, []), (21, 1, 1, 0, 0, []), (22, 57, 0, 0, 2, [])]
def bX0_isSentence_1 : List In := [(25, 1, 0, 0, 0, []), (26, 58, 0, 0, 2, [])]
def bX0_isSentence_2 : List In := [(26, 61, 0, 0, 0, [])]
def BX0_isSentence : List (List In) := [bX0_isSentence_0, bX0_isSentence_1, bX0_isSentence_2]
set_option maxRecDepth 100000 in
theorem mkX0_isSentence : MkB 128 BX0_isSentence := MkB_of (by decide +kernel)
theorem lX0_isSentence : (sgD 128).2.2.1 = 2 := rfl
theorem eX0_isSentence_0 : BX0_isSentence.getD 0 [] = bX0_isSentence_0 := rfl
theorem eX0_isSentence_1 : BX0_isSentence.getD 1 [] = bX0_isSentence_1 := rfl
theorem eX0_isSentence_2 : BX0_isSentence.getD 2 [] = bX0_isSentence_2 := rfl
def bX0_isToStandBehind_0 : List In := [(0, 4, 0, 1, 1, []), (1, 1, -1, 0, 0, []), (2, 56, 0, 0, 1, []), (5, 6, 0, 1, 0, []), (6, 4, 0, 1, 1, []), (7, 75, 3044, 95, 2, [76, 0]), (10, 55, 0, 0, 2, []), (13, 58, 0, 0, 1, [])]
def bX0_isToStandBehind_1 : List In := [(13, 1, 1, 0, 0, []), (14, 57, 0, 0, 3, [])]
def bX0_isToStandBehind_2 : List In := [(17, 1, 0, 0, 0, []), (18, 58, 0, 0, 3, [])]
def bX0_isToStandBehind_3 : List In := [(18, 61, 0, 0, 0, [])]
def BX0_isToStandBehind : List (List In) := [bX0_isToStandBehind_0, bX0_isToStandBehind_1, bX0_isToStandBehind_2, bX0_isToStandBehind_3]
set_option maxRecDepth 100000 in
theorem mkX0_isToStandBehind : MkB 129 BX0_isToStandBehind := MkB_of (by decide +kernel)
theorem lX0_isToStandBehind : (sgD 129).2.2.1 = 2 := rfl
theorem eX0_isToStandBehind_0 : BX0_isToStandBehind.getD 0 [] = bX0_isToStandBehind_0 := rfl
theorem eX0_isToStandBehind_1 : BX0_isToStandBehind.getD 1 [] = bX0_isToStandBehind_1 := rfl
theorem eX0_isToStandBehind_2 : BX0_isToStandBehind.getD 2 [] = bX0_isToStandBehind_2 := rfl
theorem eX0_isToStandBehind_3 : BX0_isToStandBehind.getD 3 [] = bX0_isToStandBehind_3 := rfl
def bX0_readThrough_0 : List In := [(0, 6, 0, 1, 0, []), (1, 2, 0, 0, 0, []), (2, 43, 5, 0, 0, [156, 2024]), (5, 6, 0, 1, 0, []), (6, 1, 0, 0, 0, []), (7, 42, 16, 0, 0, [159, 2047]), (10, 6, 0, 1, 0, []), (11, 40, 10, 0, 0, [721682921, 24, 2032]), (14, 1, 0, 0, 0, []), (15, 45, 0, 0, 0, []), (16, 7, 0, 1, 1, []), (17, 1, 0, 0, 0, []), (18, 7, 0, 1, 2, []), (19, 58, 0, 0, 1001, [])]
def bX0_readThrough_1 : List In := [(19, 4, 0, 1, 2, []), (20, 1, 60, 1, 0, []), (22, 56, 3, 0, 7, []), (25, 4, 0, 1, 1, []), (26, 1, -1, 0, 0, []), (27, 56, 0, 0, 7, []), (30, 6, 0, 1, 0, []), (31, 4, 0, 1, 1, []), (32, 75, 3102, 162, 2, [75, 0]), (35, 55, 1, 0, 2, []), (38, 1, 1, 0, 0, []), (39, 57, 0, 0, 3, [])]
def bX0_readThrough_2 : List In := [(42, 1, 0, 0, 0, []), (43, 58, 0, 0, 3, [])]
def bX0_readThrough_3 : List In := [(43, 7, 0, 1, 3, []), (44, 4, 0, 1, 3, []), (45, 55, 0, 0, 4, []), (48, 6, 0, 1, 0, []), (49, 35, 0, 0, 0, []), (50, 38, 5, 0, 0, [156, 2024]), (53, 4, 0, 1, 1, []), (54, 67, 3056, 103, 1, [14, 0, 1]), (57, 27, 0, 0, 0, []), (58, 43, 5, 0, 0, [156, 2024]), (61, 6, 0, 1, 0, []), (62, 40, 15, 0, 0, [805568993, 39, 2043]), (65, 6, 0, 1, 0, []), (66, 37, 16, 0, 0, [159, 2047]), (69, 4, 0, 1, 1, []), (70, 50, 0, 0, 0, []), (71, 6, 0, 1, 0, []), (72, 35, 0, 0, 0, []), (73, 37, 16, 0, 0, [159, 2047]), (76, 1, 1, 0, 0, []), (77, 11, 0, 0, 0, []), (78, 42, 16, 0, 0, [159, 2047]), (81, 58, 0, 0, 4, [])]
def bX0_readThrough_4 : List In := [(81, 4, 0, 1, 3, []), (82, 55, 0, 0, 5, []), (85, 6, 0, 1, 0, []), (86, 40, 10, 0, 0, [721682921, 24, 2032]), (89, 4, 0, 1, 1, []), (90, 1, 1, 0, 0, []), (91, 11, 0, 0, 0, []), (92, 45, 0, 0, 0, []), (93, 1, -1, 0, 0, []), (94, 56, 0, 0, 5, []), (97, 6, 0, 1, 0, []), (98, 40, 10, 0, 0, [721682921, 24, 2032]), (101, 4, 0, 1, 1, []), (102, 1, 1, 0, 0, []), (103, 11, 0, 0, 0, []), (104, 45, 0, 0, 0, []), (105, 57, 0, 0, 6, [])]
def bX0_readThrough_5 : List In := [(108, 6, 0, 1, 0, []), (109, 4, 0, 1, 1, []), (110, 75, 3106, 165, 2, [8, 0]), (113, 58, 0, 0, 6, [])]
def bX0_readThrough_6 : List In := [(113, 7, 0, 1, 1, []), (114, 10, 1, 0, 2, []), (117, 57, 0, 0, 1001, [])]
def bX0_readThrough_7 : List In := [(120, 64, 0, 0, 0, [])]
def BX0_readThrough : List (List In) := [bX0_readThrough_0, bX0_readThrough_1, bX0_readThrough_2, bX0_readThrough_3, bX0_readThrough_4, bX0_readThrough_5, bX0_readThrough_6, bX0_readThrough_7]
set_option maxRecDepth 100000 in
theorem mkX0_readThrough : MkB 130 BX0_readThrough := MkB_of (by decide +kernel)
theorem lX0_readThrough : (sgD 130).2.2.1 = 4 := rfl
theorem eX0_readThrough_0 : BX0_readThrough.getD 0 [] = bX0_readThrough_0 := rfl
theorem eX0_readThrough_1 : BX0_readThrough.getD 1 [] = bX0_readThrough_1 := rfl
theorem eX0_readThrough_2 : BX0_readThrough.getD 2 [] = bX0_readThrough_2 := rfl
theorem eX0_readThrough_3 : BX0_readThrough.getD 3 [] = bX0_readThrough_3 := rfl
theorem eX0_readThrough_4 : BX0_readThrough.getD 4 [] = bX0_readThrough_4 := rfl
theorem eX0_readThrough_5 : BX0_readThrough.getD 5 [] = bX0_readThrough_5 := rfl
theorem eX0_readThrough_6 : BX0_readThrough.getD 6 [] = bX0_readThrough_6 := rfl
theorem eX0_readThrough_7 : BX0_readThrough.getD 7 [] = bX0_readThrough_7 := rfl
def bX0_speak_0 : List In := [(0, 6, 0, 1, 0, []), (1, 4, 0, 1, 1, []), (2, 78, 3080, 129, 2, [12, 0]), (5, 9, 0, 1, 3, []), (6, 6, 0, 1, 0, []), (7, 39, 0, 0, 0, [33685536, 42, 2019]), (10, 39, 8, 0, 4, [2114060772, 133, 1085]), (13, 4, 0, 1, 2, []), (14, 48, 0, 0, 0, []), (15, 9, 0, 0, 4, []), (17, 6, 0, 1, 3, []), (18, 6, 0, 0, 4, []), (20, 75, 3084, 137, 2, [122, 6]), (23, 7, 0, 0, 5, []), (25, 6, 0, 1, 3, []), (26, 6, 0, 0, 4, []), (28, 4, 0, 0, 5, []), (30, 75, 3091, 143, 3, [123, 6]), (33, 7, 0, 0, 6, []), (35, 4, 0, 1, 1, []), (36, 1, 8, 1, 0, []), (38, 13, 0, 0, 0, []), (39, 7, 0, 0, 7, []), (41, 6, 0, 1, 0, []), (42, 40, 12, 0, 0, [755240705, 30, 2035]), (45, 4, 0, 0, 7, []), (47, 6, 0, 1, 3, []), (48, 37, 1, 0, 6, [147, 1052]), (51, 11, 0, 0, 0, []), (52, 4, 0, 0, 6, []), (54, 12, 0, 0, 0, []), (55, 6, 0, 1, 0, []), (56, 40, 12, 0, 0, [755240705, 30, 2035]), (59, 4, 0, 0, 7, []), (61, 6, 0, 0, 4, []), (63, 37, 1, 0, 6, [147, 1052]), (66, 11, 0, 0, 0, []), (67, 4, 0, 0, 6, []), (69, 12, 0, 0, 0, []), (70, 4, 0, 0, 6, []), (72, 70, 3095, 150, 0, []), (75, 4, 0, 0, 5, []), (77, 7, 0, 0, 8, []), (79, 58, 0, 0, 1001, [])]
def bX0_speak_1 : List In := [(79, 4, 0, 0, 8, []), (81, 6, 0, 0, 4, []), (83, 37, 1, 0, 6, [147, 1052]), (86, 4, 0, 0, 6, []), (88, 12, 0, 0, 0, []), (89, 56, 3, 0, 2, []), (92, 6, 0, 1, 0, []), (93, 40, 12, 0, 0, [755240705, 30, 2035]), (96, 4, 0, 0, 7, []), (98, 4, 0, 0, 8, []), (100, 11, 0, 0, 0, []), (101, 4, 0, 1, 2, []), (102, 50, 0, 0, 0, []), (103, 10, 1, 0, 8, []), (106, 57, 0, 0, 1001, [])]
def bX0_speak_2 : List In := [(109, 6, 0, 1, 0, []), (110, 40, 11, 0, 0, [738460129, 27, 2033]), (113, 4, 0, 1, 1, []), (114, 4, 0, 1, 2, []), (115, 50, 0, 0, 0, []), (116, 64, 0, 0, 0, [])]
def BX0_speak : List (List In) := [bX0_speak_0, bX0_speak_1, bX0_speak_2]
set_option maxRecDepth 100000 in
theorem mkX0_speak : MkB 131 BX0_speak := MkB_of (by decide +kernel)
theorem lX0_speak : (sgD 131).2.2.1 = 9 := rfl
theorem eX0_speak_0 : BX0_speak.getD 0 [] = bX0_speak_0 := rfl
theorem eX0_speak_1 : BX0_speak.getD 1 [] = bX0_speak_1 := rfl
theorem eX0_speak_2 : BX0_speak.getD 2 [] = bX0_speak_2 := rfl
def bX0_whatComesOf_0 : List In := [(0, 6, 0, 1, 0, []), (1, 39, 0, 0, 0, [33685536, 42, 2019]), (4, 39, 0, 0, 4, [235012577, 86, 1061]), (7, 4, 0, 1, 1, []), (8, 45, 0, 0, 0, []), (9, 7, 0, 1, 2, []), (10, 6, 0, 1, 0, []), (11, 39, 0, 0, 0, [33685536, 42, 2019]), (14, 39, 3, 0, 4, [285344225, 89, 1068]), (17, 4, 0, 1, 1, []), (18, 45, 0, 0, 0, []), (19, 7, 0, 1, 3, []), (20, 4, 0, 1, 2, []), (21, 55, 0, 0, 1, []), (24, 4, 0, 1, 2, []), (25, 1, 2, 0, 0, []), (26, 56, 1, 0, 2, []), (29, 58, 0, 0, 1, [])]
def bX0_whatComesOf_1 : List In := [(29, 6, 0, 1, 0, []), (30, 39, 0, 0, 0, [33685536, 42, 2019]), (33, 39, 4, 0, 4, [302121441, 92, 1071]), (36, 4, 0, 1, 1, []), (37, 45, 0, 0, 0, []), (38, 57, 0, 0, 3, [])]
def bX0_whatComesOf_2 : List In := [(41, 1, -1, 0, 0, []), (42, 58, 0, 0, 3, [])]
def bX0_whatComesOf_3 : List In := [(42, 7, 0, 0, 4, []), (44, 4, 0, 1, 2, []), (45, 55, 0, 0, 4, []), (48, 6, 0, 1, 0, []), (49, 4, 0, 1, 3, []), (50, 75, 3044, 95, 2, [76, 0]), (53, 55, 1, 0, 4, []), (56, 1, 1, 0, 0, []), (57, 60, 0, 0, 0, [])]
def bX0_whatComesOf_4 : List In := [(58, 4, 0, 0, 4, []), (60, 1, -1, 0, 0, []), (61, 56, 0, 0, 5, []), (64, 6, 0, 1, 0, []), (65, 4, 0, 0, 4, []), (67, 75, 3044, 95, 2, [76, 0]), (70, 55, 1, 0, 5, []), (73, 1, 1, 0, 0, []), (74, 60, 0, 0, 0, [])]
def bX0_whatComesOf_5 : List In := [(75, 4, 0, 1, 2, []), (76, 1, 2, 0, 0, []), (77, 56, 1, 0, 6, []), (80, 6, 0, 1, 0, []), (81, 4, 0, 0, 4, []), (83, 4, 0, 1, 3, []), (84, 75, 3048, 99, 3, [6, 0]), (87, 55, 0, 0, 6, []), (90, 1, 2, 0, 0, []), (91, 57, 0, 0, 7, [])]
def bX0_whatComesOf_6 : List In := [(94, 1, 0, 0, 0, []), (95, 58, 0, 0, 7, [])]
def bX0_whatComesOf_7 : List In := [(95, 60, 0, 0, 0, [])]
def BX0_whatComesOf : List (List In) := [bX0_whatComesOf_0, bX0_whatComesOf_1, bX0_whatComesOf_2, bX0_whatComesOf_3, bX0_whatComesOf_4, bX0_whatComesOf_5, bX0_whatComesOf_6, bX0_whatComesOf_7]
set_option maxRecDepth 100000 in
theorem mkX0_whatComesOf : MkB 132 BX0_whatComesOf := MkB_of (by decide +kernel)
theorem lX0_whatComesOf : (sgD 132).2.2.1 = 5 := rfl
theorem eX0_whatComesOf_0 : BX0_whatComesOf.getD 0 [] = bX0_whatComesOf_0 := rfl
theorem eX0_whatComesOf_1 : BX0_whatComesOf.getD 1 [] = bX0_whatComesOf_1 := rfl
theorem eX0_whatComesOf_2 : BX0_whatComesOf.getD 2 [] = bX0_whatComesOf_2 := rfl
theorem eX0_whatComesOf_3 : BX0_whatComesOf.getD 3 [] = bX0_whatComesOf_3 := rfl
theorem eX0_whatComesOf_4 : BX0_whatComesOf.getD 4 [] = bX0_whatComesOf_4 := rfl
theorem eX0_whatComesOf_5 : BX0_whatComesOf.getD 5 [] = bX0_whatComesOf_5 := rfl
theorem eX0_whatComesOf_6 : BX0_whatComesOf.getD 6 [] = bX0_whatComesOf_6 := rfl
theorem eX0_whatComesOf_7 : BX0_whatComesOf.getD 7 [] = bX0_whatComesOf_7 := rfl
def bX4_add_0 : List In := [(0, 6, 0, 1, 0, []), (1, 37, 11, 0, 4, [52, 1093]), (4, 7, 0, 0, 5, []), (6, 6, 0, 1, 0, []), (7, 39, 1, 0, 4, [251789793, 15, 1063]), (10, 4, 0, 0, 5, []), (12, 4, 0, 1, 1, []), (13, 50, 0, 0, 0, []), (14, 6, 0, 1, 0, []), (15, 39, 0, 0, 4, [235012577, 9, 1060]), (18, 4, 0, 0, 5, []), (20, 4, 0, 1, 2, []), (21, 50, 0, 0, 0, []), (22, 6, 0, 1, 0, []), (23, 39, 2, 0, 4, [268567009, 18, 1065]), (26, 4, 0, 0, 5, []), (28, 1, 1, 0, 0, []), (29, 6, 0, 1, 0, []), (30, 5, 0, 1, 3, []), (31, 75, 3126, 56, 2, [117, 4]), (34, 11, 0, 0, 0, []), (35, 50, 0, 0, 0, []), (36, 6, 0, 1, 0, []), (37, 39, 6, 0, 4, [335675873, 30, 1076]), (40, 4, 0, 0, 5, []), (42, 1, -6, 1, 0, []), (44, 50, 0, 0, 0, []), (45, 6, 0, 1, 0, []), (46, 39, 7, 0, 4, [352453089, 33, 1080]), (49, 4, 0, 0, 5, []), (51, 1, -6, 1, 0, []), (53, 50, 0, 0, 0, []), (54, 6, 0, 1, 0, []), (55, 4, 0, 0, 5, []), (57, 79, 3132, 60, 2, [116, 4]), (60, 6, 0, 1, 0, []), (61, 35, 0, 0, 0, []), (62, 37, 11, 0, 4, [52, 1093]), (65, 1, 1, 0, 0, []), (66, 11, 0, 0, 0, []), (67, 42, 11, 0, 4, [52, 1093]), (70, 4, 0, 0, 5, []), (72, 60, 0, 0, 0, [])]
def BX4_add : List (List In) := [bX4_add_0]
set_option maxRecDepth 100000 in
theorem mkX4_add : MkB 154 BX4_add := MkB_of (by decide +kernel)
theorem lX4_add : (sgD 154).2.2.1 = 6 := rfl
theorem eX4_add_0 : BX4_add.getD 0 [] = bX4_add_0 := rfl
def bX6_append_0 : List In := [(0, 1, 0, 0, 0, []), (1, 7, 0, 1, 2, []), (2, 58, 0, 0, 1001, [])]
def bX6_append_1 : List In := [(2, 4, 0, 1, 2, []), (3, 6, 0, 1, 1, []), (4, 37, 1, 0, 6, [19, 1046]), (7, 56, 3, 0, 2, []), (10, 6, 0, 1, 0, []), (11, 6, 0, 1, 1, []), (12, 41, 0, 0, 6, [0, 13, 1041]), (15, 4, 0, 1, 2, []), (16, 45, 0, 0, 0, []), (17, 79, 3175, 27, 2, [120, 6]), (20, 10, 1, 0, 2, []), (23, 57, 0, 0, 1001, [])]
def bX6_append_2 : List In := [(26, 64, 0, 0, 0, [])]
def BX6_append : List (List In) := [bX6_append_0, bX6_append_1, bX6_append_2]
set_option maxRecDepth 100000 in
theorem mkX6_append : MkB 156 BX6_append := MkB_of (by decide +kernel)
theorem lX6_append : (sgD 156).2.2.1 = 3 := rfl
theorem eX6_append_0 : BX6_append.getD 0 [] = bX6_append_0 := rfl
theorem eX6_append_1 : BX6_append.getD 1 [] = bX6_append_1 := rfl
theorem eX6_append_2 : BX6_append.getD 2 [] = bX6_append_2 := rfl
def bX6_isSameAs_0 : List In := [(0, 6, 0, 1, 0, []), (1, 37, 1, 0, 6, [19, 1046]), (4, 6, 0, 1, 1, []), (5, 37, 1, 0, 6, [19, 1046]), (8, 56, 1, 0, 1, []), (11, 6, 0, 1, 0, []), (12, 6, 0, 1, 1, []), (13, 75, 5092, 38, 2, [122, 6]), (16, 6, 0, 1, 0, []), (17, 37, 1, 0, 6, [19, 1046]), (20, 56, 1, 0, 1, []), (23, 1, 1, 0, 0, []), (24, 57, 0, 0, 2, [])]
def bX6_isSameAs_1 : List In := [(27, 1, 0, 0, 0, []), (28, 58, 0, 0, 2, [])]
def bX6_isSameAs_2 : List In := [(28, 61, 0, 0, 0, [])]
def BX6_isSameAs : List (List In) := [bX6_isSameAs_0, bX6_isSameAs_1, bX6_isSameAs_2]
set_option maxRecDepth 100000 in
theorem mkX6_isSameAs : MkB 157 BX6_isSameAs := MkB_of (by decide +kernel)
theorem lX6_isSameAs : (sgD 157).2.2.1 = 2 := rfl
theorem eX6_isSameAs_0 : BX6_isSameAs.getD 0 [] = bX6_isSameAs_0 := rfl
theorem eX6_isSameAs_1 : BX6_isSameAs.getD 1 [] = bX6_isSameAs_1 := rfl
theorem eX6_isSameAs_2 : BX6_isSameAs.getD 2 [] = bX6_isSameAs_2 := rfl
def bX7_setSentence_0 : List In := [(0, 6, 0, 1, 0, []), (1, 40, 3, 0, 7, [151257096, 12, 2135]), (4, 6, 0, 1, 0, []), (5, 40, 5, 0, 7, [2164523493, 27, 2138]), (8, 4, 0, 1, 1, []), (9, 48, 0, 0, 0, []), (10, 6, 0, 1, 0, []), (11, 4, 0, 1, 1, []), (12, 75, 4231, 162, 2, [63, 7]), (15, 79, 4235, 165, 3, [49, 1]), (18, 6, 0, 1, 0, []), (19, 40, 3, 0, 7, [151257096, 12, 2135]), (22, 4, 0, 1, 2, []), (23, 79, 4239, 169, 2, [110, 1]), (26, 6, 0, 1, 0, []), (27, 40, 7, 0, 7, [839123425, 35, 2141]), (30, 4, 0, 1, 1, []), (31, 6, 0, 1, 0, []), (32, 40, 4, 0, 7, [168034344, 21, 2136]), (35, 75, 5008, 172, 1, [59, 5]), (38, 50, 0, 0, 0, []), (39, 1, 0, 0, 0, []), (40, 7, 0, 1, 3, []), (41, 1, 0, 0, 0, []), (42, 7, 0, 0, 4, []), (44, 58, 0, 0, 1001, [])]
def bX7_setSentence_1 : List In := [(44, 4, 0, 1, 3, []), (45, 6, 0, 1, 0, []), (46, 40, 3, 0, 7, [151257096, 12, 2135]), (49, 37, 3, 0, 1, [176, 2101]), (52, 56, 3, 0, 4, []), (55, 4, 0, 0, 4, []), (57, 1, 9, 1, 0, []), (59, 56, 3, 0, 4, []), (62, 6, 0, 1, 0, []), (63, 40, 3, 0, 7, [151257096, 12, 2135]), (66, 40, 2, 0, 1, [956563537, 179, 2099]), (69, 4, 0, 1, 3, []), (70, 45, 0, 0, 0, []), (71, 7, 0, 0, 5, []), (73, 4, 0, 0, 5, []), (75, 6, 0, 1, 0, []), (76, 40, 3, 0, 7, [151257096, 12, 2135]), (79, 37, 3, 0, 1, [176, 2101]), (82, 56, 1, 0, 2, []), (85, 1, 1, 0, 0, []), (86, 6, 0, 1, 0, []), (87, 40, 2, 0, 7, [117702656, 58, 2134]), (90, 40, 13, 0, 0, [772014561, 182, 2038]), (93, 4, 0, 1, 1, []), (94, 45, 0, 0, 0, []), (95, 11, 0, 0, 0, []), (96, 57, 0, 0, 3, [])]
def bX7_setSentence_2 : List In := [(99, 1, 1, 0, 0, []), (100, 58, 0, 0, 3, [])]
def bX7_setSentence_3 : List In := [(100, 7, 0, 0, 6, []), (102, 6, 0, 1, 0, []), (103, 40, 10, 0, 7, [889458913, 44, 2146]), (106, 4, 0, 1, 1, []), (107, 1, 9, 1, 0, []), (109, 13, 0, 0, 0, []), (110, 4, 0, 0, 4, []), (112, 11, 0, 0, 0, []), (113, 6, 0, 1, 0, []), (114, 40, 4, 0, 7, [168034344, 21, 2136]), (117, 4, 0, 0, 6, []), (119, 75, 5012, 159, 2, [58, 5]), (122, 50, 0, 0, 0, []), (123, 6, 0, 1, 0, []), (124, 40, 11, 0, 7, [906236129, 47, 2148]), (127, 4, 0, 1, 1, []), (128, 1, 9, 1, 0, []), (130, 13, 0, 0, 0, []), (131, 4, 0, 0, 4, []), (133, 11, 0, 0, 0, []), (134, 4, 0, 0, 5, []), (136, 4, 0, 1, 3, []), (137, 12, 0, 0, 0, []), (138, 50, 0, 0, 0, []), (139, 10, 1, 0, 4, []), (142, 4, 0, 0, 5, []), (144, 7, 0, 1, 3, []), (145, 57, 0, 0, 1001, [])]
def bX7_setSentence_4 : List In := [(148, 4, 0, 0, 4, []), (150, 55, 5, 0, 5, []), (153, 6, 0, 1, 0, []), (154, 40, 7, 0, 7, [839123425, 35, 2141]), (157, 4, 0, 1, 1, []), (158, 6, 0, 1, 0, []), (159, 40, 10, 0, 7, [889458913, 44, 2146]), (162, 4, 0, 1, 1, []), (163, 1, 9, 1, 0, []), (165, 13, 0, 0, 0, []), (166, 45, 0, 0, 0, []), (167, 50, 0, 0, 0, []), (168, 58, 0, 0, 5, [])]
def bX7_setSentence_5 : List In := [(168, 6, 0, 1, 0, []), (169, 40, 9, 0, 7, [872677857, 41, 2144]), (172, 4, 0, 1, 1, []), (173, 4, 0, 0, 4, []), (175, 50, 0, 0, 0, []), (176, 6, 0, 1, 0, []), (177, 35, 0, 0, 0, []), (178, 37, 14, 0, 7, [143, 2153]), (181, 4, 0, 0, 4, []), (183, 11, 0, 0, 0, []), (184, 42, 14, 0, 7, [143, 2153]), (187, 6, 0, 1, 0, []), (188, 35, 0, 0, 0, []), (189, 37, 15, 0, 7, [146, 2155]), (192, 6, 0, 1, 0, []), (193, 40, 3, 0, 7, [151257096, 12, 2135]), (196, 75, 5016, 185, 1, [50, 1]), (199, 11, 0, 0, 0, []), (200, 42, 15, 0, 7, [146, 2155]), (203, 64, 0, 0, 0, [])]
def BX7_setSentence : List (List In) := [bX7_setSentence_0, bX7_setSentence_1, bX7_setSentence_2, bX7_setSentence_3, bX7_setSentence_4, bX7_setSentence_5]
set_option maxRecDepth 100000 in
theorem mkX7_setSentence : MkB 159 BX7_setSentence := MkB_of (by decide +kernel)
theorem lX7_setSentence : (sgD 159).2.2.1 = 7 := rfl
theorem eX7_setSentence_0 : BX7_setSentence.getD 0 [] = bX7_setSentence_0 := rfl
theorem eX7_setSentence_1 : BX7_setSentence.getD 1 [] = bX7_setSentence_1 := rfl
theorem eX7_setSentence_2 : BX7_setSentence.getD 2 [] = bX7_setSentence_2 := rfl
theorem eX7_setSentence_3 : BX7_setSentence.getD 3 [] = bX7_setSentence_3 := rfl
theorem eX7_setSentence_4 : BX7_setSentence.getD 4 [] = bX7_setSentence_4 := rfl
theorem eX7_setSentence_5 : BX7_setSentence.getD 5 [] = bX7_setSentence_5 := rfl
def bX9_leading_0 : List In := [(0, 6, 0, 1, 0, []), (1, 37, 6, 0, 9, [47, 1196]), (4, 1, 1, 0, 0, []), (5, 12, 0, 0, 0, []), (6, 7, 0, 0, 4, []), (8, 58, 0, 0, 1001, [])]
def bX9_leading_1 : List In := [(8, 4, 0, 0, 4, []), (10, 55, 2, 0, 6, []), (13, 6, 0, 1, 0, []), (14, 39, 2, 0, 9, [486670529, 9, 1189]), (17, 4, 0, 0, 4, []), (19, 45, 0, 0, 0, []), (20, 4, 0, 1, 1, []), (21, 56, 1, 0, 5, []), (24, 6, 0, 1, 0, []), (25, 39, 3, 0, 9, [503447745, 15, 1190]), (28, 4, 0, 0, 4, []), (30, 45, 0, 0, 0, []), (31, 4, 0, 1, 2, []), (32, 56, 0, 0, 2, []), (35, 57, 0, 0, 5, [])]
def bX9_leading_2 : List In := [(38, 6, 0, 1, 0, []), (39, 39, 1, 0, 9, [50462744, 40, 1188]), (42, 6, 0, 1, 0, []), (43, 4, 0, 0, 4, []), (45, 78, 4142, 63, 2, [71, 9]), (48, 6, 0, 1, 3, []), (49, 4, 0, 1, 2, []), (50, 78, 4137, 67, 2, [12, 0]), (53, 75, 4146, 72, 3, [112, 3]), (56, 55, 0, 0, 3, []), (59, 4, 0, 0, 4, []), (61, 57, 0, 0, 4, [])]
def bX9_leading_3 : List In := [(64, 1, -1, 0, 0, []), (65, 58, 0, 0, 4, [])]
def bX9_leading_4 : List In := [(65, 60, 0, 0, 0, [])]
def bX9_leading_5 : List In := [(66, 10, -1, 0, 4, []), (69, 57, 0, 0, 1001, [])]
def bX9_leading_6 : List In := [(72, 1, -1, 0, 0, []), (73, 60, 0, 0, 0, [])]
def BX9_leading : List (List In) := [bX9_leading_0, bX9_leading_1, bX9_leading_2, bX9_leading_3, bX9_leading_4, bX9_leading_5, bX9_leading_6]
set_option maxRecDepth 100000 in
theorem mkX9_leading : MkB 161 BX9_leading := MkB_of (by decide +kernel)
theorem lX9_leading : (sgD 161).2.2.1 = 5 := rfl
theorem eX9_leading_0 : BX9_leading.getD 0 [] = bX9_leading_0 := rfl
theorem eX9_leading_1 : BX9_leading.getD 1 [] = bX9_leading_1 := rfl
theorem eX9_leading_2 : BX9_leading.getD 2 [] = bX9_leading_2 := rfl
theorem eX9_leading_3 : BX9_leading.getD 3 [] = bX9_leading_3 := rfl
theorem eX9_leading_4 : BX9_leading.getD 4 [] = bX9_leading_4 := rfl
theorem eX9_leading_5 : BX9_leading.getD 5 [] = bX9_leading_5 := rfl
theorem eX9_leading_6 : BX9_leading.getD 6 [] = bX9_leading_6 := rfl
def bX9_nearest_0 : List In := [(0, 1, -1, 0, 0, []), (1, 7, 0, 1, 3, []), (2, 1, 0, 0, 0, []), (3, 7, 0, 0, 4, []), (5, 1, 0, 0, 0, []), (6, 7, 0, 0, 5, []), (8, 58, 0, 0, 1001, [])]
def bX9_nearest_1 : List In := [(8, 4, 0, 0, 5, []), (10, 6, 0, 1, 0, []), (11, 37, 6, 0, 9, [47, 1196]), (14, 56, 3, 0, 5, []), (17, 6, 0, 1, 0, []), (18, 39, 2, 0, 9, [486670529, 9, 1189]), (21, 4, 0, 0, 5, []), (23, 45, 0, 0, 0, []), (24, 4, 0, 1, 1, []), (25, 56, 0, 0, 2, []), (28, 57, 0, 0, 4, [])]
def bX9_nearest_2 : List In := [(31, 6, 0, 1, 0, []), (32, 39, 1, 0, 9, [50462744, 40, 1188]), (35, 6, 0, 1, 0, []), (36, 4, 0, 0, 5, []), (38, 78, 4142, 63, 2, [71, 9]), (41, 6, 0, 1, 2, []), (42, 75, 4155, 93, 3, [113, 3]), (45, 7, 0, 0, 6, []), (47, 4, 0, 1, 3, []), (48, 1, -1, 0, 0, []), (49, 56, 0, 0, 3, []), (52, 4, 0, 0, 6, []), (54, 4, 0, 0, 4, []), (56, 56, 3, 0, 4, []), (59, 58, 0, 0, 3, [])]
def bX9_nearest_3 : List In := [(59, 4, 0, 0, 5, []), (61, 7, 0, 1, 3, []), (62, 4, 0, 0, 6, []), (64, 7, 0, 0, 4, []), (66, 58, 0, 0, 4, [])]
def bX9_nearest_4 : List In := [(66, 10, 1, 0, 5, []), (69, 57, 0, 0, 1001, [])]
def bX9_nearest_5 : List In := [(72, 4, 0, 1, 3, []), (73, 60, 0, 0, 0, [])]
def BX9_nearest : List (List In) := [bX9_nearest_0, bX9_nearest_1, bX9_nearest_2, bX9_nearest_3, bX9_nearest_4, bX9_nearest_5]
set_option maxRecDepth 100000 in
theorem mkX9_nearest : MkB 162 BX9_nearest := MkB_of (by decide +kernel)
theorem lX9_nearest : (sgD 162).2.2.1 = 7 := rfl
theorem eX9_nearest_0 : BX9_nearest.getD 0 [] = bX9_nearest_0 := rfl
theorem eX9_nearest_1 : BX9_nearest.getD 1 [] = bX9_nearest_1 := rfl
theorem eX9_nearest_2 : BX9_nearest.getD 2 [] = bX9_nearest_2 := rfl
theorem eX9_nearest_3 : BX9_nearest.getD 3 [] = bX9_nearest_3 := rfl
theorem eX9_nearest_4 : BX9_nearest.getD 4 [] = bX9_nearest_4 := rfl
theorem eX9_nearest_5 : BX9_nearest.getD 5 [] = bX9_nearest_5 := rfl
def bX0_bringAbout_0 : List In := [(0, 6, 0, 1, 0, []), (1, 39, 0, 0, 0, [33685536, 42, 2019]), (4, 39, 3, 0, 4, [285344225, 89, 1068]), (7, 4, 0, 1, 1, []), (8, 45, 0, 0, 0, []), (9, 7, 0, 1, 2, []), (10, 6, 0, 1, 0, []), (11, 39, 0, 0, 0, [33685536, 42, 2019]), (14, 39, 0, 0, 4, [235012577, 86, 1061]), (17, 4, 0, 1, 1, []), (18, 45, 0, 0, 0, []), (19, 59, 0, 5, 7, [1, 2, 3, 4, 5, 6])]
def bX0_bringAbout_1 : List In := [(56, 6, 0, 1, 0, []), (57, 35, 0, 0, 0, []), (58, 38, 3, 0, 0, [80, 2022]), (61, 4, 0, 1, 2, []), (62, 67, 3056, 103, 1, [14, 0, 1]), (65, 27, 0, 0, 0, []), (66, 43, 3, 0, 0, [80, 2022]), (69, 6, 0, 1, 0, []), (70, 4, 0, 1, 2, []), (71, 6, 0, 1, 0, []), (72, 39, 0, 0, 0, [33685536, 42, 2019]), (75, 39, 4, 0, 4, [302121441, 92, 1071]), (78, 4, 0, 1, 1, []), (79, 45, 0, 0, 0, []), (80, 6, 0, 1, 0, []), (81, 39, 0, 0, 0, [33685536, 42, 2019]), (84, 39, 5, 0, 4, [318898657, 107, 1074]), (87, 4, 0, 1, 1, []), (88, 45, 0, 0, 0, []), (89, 79, 3059, 110, 4, [73, 0]), (92, 57, 0, 0, 8, [])]
def bX0_bringAbout_2 : List In := [(95, 6, 0, 1, 0, []), (96, 35, 0, 0, 0, []), (97, 38, 4, 0, 0, [83, 2023]), (100, 4, 0, 1, 2, []), (101, 67, 3056, 103, 1, [14, 0, 1]), (104, 27, 0, 0, 0, []), (105, 43, 4, 0, 0, [83, 2023]), (108, 57, 0, 0, 8, [])]
def bX0_bringAbout_3 : List In := [(111, 6, 0, 1, 0, []), (112, 4, 0, 1, 2, []), (113, 79, 3067, 114, 2, [11, 0]), (116, 6, 0, 1, 0, []), (117, 4, 0, 1, 2, []), (118, 6, 0, 1, 0, []), (119, 39, 0, 0, 0, [33685536, 42, 2019]), (122, 39, 4, 0, 4, [302121441, 92, 1071]), (125, 4, 0, 1, 1, []), (126, 45, 0, 0, 0, []), (127, 6, 0, 1, 0, []), (128, 39, 0, 0, 0, [33685536, 42, 2019]), (131, 39, 5, 0, 4, [318898657, 107, 1074]), (134, 4, 0, 1, 1, []), (135, 45, 0, 0, 0, []), (136, 79, 3059, 110, 4, [73, 0]), (139, 6, 0, 1, 0, []), (140, 4, 0, 1, 2, []), (141, 79, 3071, 117, 2, [77, 0]), (144, 57, 0, 0, 8, [])]
def bX0_bringAbout_4 : List In := [(147, 6, 0, 1, 0, []), (148, 4, 0, 1, 2, []), (149, 4, 0, 1, 1, []), (150, 79, 3076, 120, 3, [131, 0]), (153, 6, 0, 1, 0, []), (154, 4, 0, 1, 2, []), (155, 79, 3071, 117, 2, [77, 0]), (158, 57, 0, 0, 8, [])]
def bX0_bringAbout_5 : List In := [(161, 6, 0, 1, 0, []), (162, 40, 13, 0, 0, [772014561, 33, 2037]), (165, 4, 0, 1, 2, []), (166, 6, 0, 1, 0, []), (167, 39, 0, 0, 0, [33685536, 42, 2019]), (170, 39, 4, 0, 4, [302121441, 92, 1071]), (173, 4, 0, 1, 1, []), (174, 45, 0, 0, 0, []), (175, 50, 0, 0, 0, []), (176, 57, 0, 0, 8, [])]
def bX0_bringAbout_6 : List In := [(179, 6, 0, 1, 0, []), (180, 40, 14, 0, 0, [788791777, 36, 2040]), (183, 4, 0, 1, 2, []), (184, 6, 0, 1, 0, []), (185, 39, 0, 0, 0, [33685536, 42, 2019]), (188, 39, 4, 0, 4, [302121441, 92, 1071]), (191, 4, 0, 1, 1, []), (192, 45, 0, 0, 0, []), (193, 50, 0, 0, 0, []), (194, 57, 0, 0, 8, [])]
def bX0_bringAbout_7 : List In := [(197, 6, 0, 1, 0, []), (198, 35, 0, 0, 0, []), (199, 38, 4, 0, 0, [83, 2023]), (202, 4, 0, 1, 2, []), (203, 67, 3056, 103, 1, [14, 0, 1]), (206, 2, -1, 1, 0, [124, 3075]), (209, 28, 0, 0, 0, []), (210, 26, 0, 0, 0, []), (211, 43, 4, 0, 0, [83, 2023]), (214, 58, 0, 0, 8, [])]
def bX0_bringAbout_8 : List In := [(214, 64, 0, 0, 0, [])]
def BX0_bringAbout : List (List In) := [bX0_bringAbout_0, bX0_bringAbout_1, bX0_bringAbout_2, bX0_bringAbout_3, bX0_bringAbout_4, bX0_bringAbout_5, bX0_bringAbout_6, bX0_bringAbout_7, bX0_bringAbout_8]
set_option maxRecDepth 100000 in
theorem mkX0_bringAbout : MkB 163 BX0_bringAbout := MkB_of (by decide +kernel)
theorem lX0_bringAbout : (sgD 163).2.2.1 = 3 := rfl
theorem eX0_bringAbout_0 : BX0_bringAbout.getD 0 [] = bX0_bringAbout_0 := rfl
theorem eX0_bringAbout_1 : BX0_bringAbout.getD 1 [] = bX0_bringAbout_1 := rfl
theorem eX0_bringAbout_2 : BX0_bringAbout.getD 2 [] = bX0_bringAbout_2 := rfl
theorem eX0_bringAbout_3 : BX0_bringAbout.getD 3 [] = bX0_bringAbout_3 := rfl
theorem eX0_bringAbout_4 : BX0_bringAbout.getD 4 [] = bX0_bringAbout_4 := rfl
theorem eX0_bringAbout_5 : BX0_bringAbout.getD 5 [] = bX0_bringAbout_5 := rfl
theorem eX0_bringAbout_6 : BX0_bringAbout.getD 6 [] = bX0_bringAbout_6 := rfl
theorem eX0_bringAbout_7 : BX0_bringAbout.getD 7 [] = bX0_bringAbout_7 := rfl
theorem eX0_bringAbout_8 : BX0_bringAbout.getD 8 [] = bX0_bringAbout_8 := rfl
def bX0_gather_0 : List In := [(0, 6, 0, 1, 2, []), (1, 79, 4086, 175, 1, [60, 6]), (4, 1, 0, 0, 0, []), (5, 7, 0, 1, 3, []), (6, 58, 0, 0, 1001, [])]
def bX0_gather_1 : List In := [(6, 4, 0, 1, 3, []), (7, 6, 0, 1, 0, []), (8, 37, 16, 0, 0, [159, 2047]), (11, 56, 3, 0, 3, []), (14, 6, 0, 1, 0, []), (15, 6, 0, 1, 0, []), (16, 40, 15, 0, 0, [805568993, 39, 2043]), (19, 4, 0, 1, 3, []), (20, 45, 0, 0, 0, []), (21, 4, 0, 1, 1, []), (22, 75, 3048, 99, 3, [6, 0]), (25, 55, 0, 0, 2, []), (28, 6, 0, 1, 2, []), (29, 6, 0, 1, 0, []), (30, 6, 0, 1, 0, []), (31, 40, 15, 0, 0, [805568993, 39, 2043]), (34, 4, 0, 1, 3, []), (35, 45, 0, 0, 0, []), (36, 78, 3080, 129, 2, [12, 0]), (39, 79, 4087, 176, 2, [156, 6]), (42, 58, 0, 0, 2, [])]
def bX0_gather_2 : List In := [(42, 10, 1, 0, 3, []), (45, 57, 0, 0, 1001, [])]
def bX0_gather_3 : List In := [(48, 64, 0, 0, 0, [])]
def BX0_gather : List (List In) := [bX0_gather_0, bX0_gather_1, bX0_gather_2, bX0_gather_3]
set_option maxRecDepth 100000 in
theorem mkX0_gather : MkB 164 BX0_gather := MkB_of (by decide +kernel)
theorem lX0_gather : (sgD 164).2.2.1 = 4 := rfl
theorem eX0_gather_0 : BX0_gather.getD 0 [] = bX0_gather_0 := rfl
theorem eX0_gather_1 : BX0_gather.getD 1 [] = bX0_gather_1 := rfl
theorem eX0_gather_2 : BX0_gather.getD 2 [] = bX0_gather_2 := rfl
theorem eX0_gather_3 : BX0_gather.getD 3 [] = bX0_gather_3 := rfl
def bX6_copy_0 : List In := [(0, 6, 0, 1, 0, []), (1, 79, 3167, 31, 1, [60, 6]), (4, 6, 0, 1, 0, []), (5, 6, 0, 1, 1, []), (6, 79, 3171, 34, 2, [156, 6]), (9, 64, 0, 0, 0, [])]
def BX6_copy : List (List In) := [bX6_copy_0]
set_option maxRecDepth 100000 in
theorem mkX6_copy : MkB 178 BX6_copy := MkB_of (by decide +kernel)
theorem lX6_copy : (sgD 178).2.2.1 = 2 := rfl
theorem eX6_copy_0 : BX6_copy.getD 0 [] = bX6_copy_0 := rfl
def bX7_prepare_0 : List In := [(0, 1, 0, 0, 0, []), (1, 7, 0, 1, 2, []), (2, 58, 0, 0, 1001, [])]
def bX7_prepare_1 : List In := [(2, 4, 0, 1, 2, []), (3, 6, 0, 1, 0, []), (4, 39, 0, 0, 7, [33685536, 50, 2132]), (7, 37, 11, 0, 4, [111, 1095]), (10, 56, 3, 0, 6, []), (13, 6, 0, 1, 0, []), (14, 39, 1, 0, 7, [84017224, 54, 2133]), (17, 4, 0, 1, 1, []), (18, 4, 0, 1, 2, []), (19, 6, 0, 1, 0, []), (20, 40, 2, 0, 7, [117702656, 58, 2134]), (23, 75, 4215, 114, 4, [161, 9]), (26, 7, 0, 1, 3, []), (27, 6, 0, 1, 0, []), (28, 40, 5, 0, 7, [2164523493, 27, 2138]), (31, 4, 0, 1, 2, []), (32, 4, 0, 1, 3, []), (33, 1, -1, 0, 0, []), (34, 56, 1, 0, 2, []), (37, 6, 0, 1, 0, []), (38, 40, 2, 0, 7, [117702656, 58, 2134]), (41, 4, 0, 1, 2, []), (42, 78, 4216, 120, 2, [12, 0]), (45, 57, 0, 0, 3, [])]
def bX7_prepare_2 : List In := [(48, 6, 0, 1, 0, []), (49, 39, 1, 0, 7, [84017224, 54, 2133]), (52, 39, 5, 0, 9, [2130837700, 124, 1194]), (55, 4, 0, 1, 3, []), (56, 48, 0, 0, 0, []), (57, 58, 0, 0, 3, [])]
def bX7_prepare_3 : List In := [(57, 53, 0, 0, 0, []), (58, 6, 0, 1, 0, []), (59, 40, 6, 0, 7, [822346209, 31, 2140]), (62, 4, 0, 1, 2, []), (63, 6, 0, 1, 0, []), (64, 40, 2, 0, 7, [117702656, 58, 2134]), (67, 6, 0, 1, 0, []), (68, 40, 2, 0, 7, [117702656, 58, 2134]), (71, 40, 14, 0, 0, [788791777, 127, 2041]), (74, 4, 0, 1, 2, []), (75, 45, 0, 0, 0, []), (76, 75, 4217, 130, 2, [74, 0]), (79, 55, 0, 0, 4, []), (82, 6, 0, 1, 0, []), (83, 40, 2, 0, 7, [117702656, 58, 2134]), (86, 40, 14, 0, 0, [788791777, 127, 2041]), (89, 4, 0, 1, 2, []), (90, 45, 0, 0, 0, []), (91, 57, 0, 0, 5, [])]
def bX7_prepare_4 : List In := [(94, 1, -1, 0, 0, []), (95, 58, 0, 0, 5, [])]
def bX7_prepare_5 : List In := [(95, 50, 0, 0, 0, []), (96, 6, 0, 1, 0, []), (97, 40, 9, 0, 7, [872677857, 41, 2144]), (100, 4, 0, 1, 2, []), (101, 1, 0, 0, 0, []), (102, 50, 0, 0, 0, []), (103, 6, 0, 1, 0, []), (104, 40, 7, 0, 7, [839123425, 35, 2141]), (107, 4, 0, 1, 2, []), (108, 1, 1, 0, 0, []), (109, 50, 0, 0, 0, []), (110, 10, 1, 0, 2, []), (113, 57, 0, 0, 1001, [])]
def bX7_prepare_6 : List In := [(116, 64, 0, 0, 0, [])]
def BX7_prepare : List (List In) := [bX7_prepare_0, bX7_prepare_1, bX7_prepare_2, bX7_prepare_3, bX7_prepare_4, bX7_prepare_5, bX7_prepare_6]
set_option maxRecDepth 100000 in
theorem mkX7_prepare : MkB 179 BX7_prepare := MkB_of (by decide +kernel)
theorem lX7_prepare : (sgD 179).2.2.1 = 4 := rfl
theorem eX7_prepare_0 : BX7_prepare.getD 0 [] = bX7_prepare_0 := rfl
theorem eX7_prepare_1 : BX7_prepare.getD 1 [] = bX7_prepare_1 := rfl
theorem eX7_prepare_2 : BX7_prepare.getD 2 [] = bX7_prepare_2 := rfl
theorem eX7_prepare_3 : BX7_prepare.getD 3 [] = bX7_prepare_3 := rfl
theorem eX7_prepare_4 : BX7_prepare.getD 4 [] = bX7_prepare_4 := rfl
theorem eX7_prepare_5 : BX7_prepare.getD 5 [] = bX7_prepare_5 := rfl
theorem eX7_prepare_6 : BX7_prepare.getD 6 [] = bX7_prepare_6 := rfl
def bX7_setAll_0 : List In := [(0, 6, 0, 1, 0, []), (1, 40, 4, 0, 7, [168034344, 21, 2136]), (4, 4, 0, 1, 2, []), (5, 79, 4223, 140, 2, [56, 5]), (8, 6, 0, 1, 0, []), (9, 1, 0, 0, 0, []), (10, 42, 14, 0, 7, [143, 2153]), (13, 6, 0, 1, 0, []), (14, 1, 0, 0, 0, []), (15, 42, 15, 0, 7, [146, 2155]), (18, 1, 0, 0, 0, []), (19, 7, 0, 1, 3, []), (20, 58, 0, 0, 1001, [])]
def bX7_setAll_1 : List In := [(20, 4, 0, 1, 3, []), (21, 6, 0, 1, 0, []), (22, 40, 2, 0, 7, [117702656, 58, 2134]), (25, 37, 16, 0, 0, [134, 2046]), (28, 56, 3, 0, 4, []), (31, 6, 0, 1, 0, []), (32, 40, 2, 0, 7, [117702656, 58, 2134]), (35, 40, 15, 0, 0, [805568993, 137, 2044]), (38, 4, 0, 1, 3, []), (39, 45, 0, 0, 0, []), (40, 7, 0, 0, 4, []), (42, 6, 0, 1, 0, []), (43, 39, 0, 0, 7, [33685536, 50, 2132]), (46, 39, 6, 0, 4, [335675873, 149, 1078]), (49, 4, 0, 0, 4, []), (51, 45, 0, 0, 0, []), (52, 1, 1, 0, 0, []), (53, 56, 1, 0, 2, []), (56, 6, 0, 1, 0, []), (57, 4, 0, 0, 4, []), (59, 4, 0, 1, 1, []), (60, 79, 4227, 152, 3, [159, 7]), (63, 57, 0, 0, 3, [])]
def bX7_setAll_2 : List In := [(66, 6, 0, 1, 0, []), (67, 40, 7, 0, 7, [839123425, 35, 2141]), (70, 4, 0, 0, 4, []), (72, 6, 0, 1, 0, []), (73, 40, 4, 0, 7, [168034344, 21, 2136]), (76, 6, 0, 1, 0, []), (77, 4, 0, 0, 4, []), (79, 75, 5020, 155, 2, [66, 7]), (82, 75, 5012, 159, 2, [58, 5]), (85, 50, 0, 0, 0, []), (86, 58, 0, 0, 3, [])]
def bX7_setAll_3 : List In := [(86, 10, 1, 0, 3, []), (89, 57, 0, 0, 1001, [])]
def bX7_setAll_4 : List In := [(92, 64, 0, 0, 0, [])]
def BX7_setAll : List (List In) := [bX7_setAll_0, bX7_setAll_1, bX7_setAll_2, bX7_setAll_3, bX7_setAll_4]
set_option maxRecDepth 100000 in
theorem mkX7_setAll : MkB 180 BX7_setAll := MkB_of (by decide +kernel)
theorem lX7_setAll : (sgD 180).2.2.1 = 5 := rfl
theorem eX7_setAll_0 : BX7_setAll.getD 0 [] = bX7_setAll_0 := rfl
theorem eX7_setAll_1 : BX7_setAll.getD 1 [] = bX7_setAll_1 := rfl
theorem eX7_setAll_2 : BX7_setAll.getD 2 [] = bX7_setAll_2 := rfl
theorem eX7_setAll_3 : BX7_setAll.getD 3 [] = bX7_setAll_3 := rfl
theorem eX7_setAll_4 : BX7_setAll.getD 4 [] = bX7_setAll_4 := rfl
def bX9_isStale_0 : List In := [(0, 6, 0, 1, 3, []), (1, 4, 0, 1, 2, []), (2, 75, 4136, 78, 2, [74, 0]), (5, 55, 0, 0, 1, []), (8, 6, 0, 1, 3, []), (9, 4, 0, 1, 2, []), (10, 78, 4137, 67, 2, [12, 0]), (13, 37, 1, 0, 6, [82, 1051]), (16, 55, 5, 0, 1, []), (19, 6, 0, 1, 0, []), (20, 4, 0, 1, 1, []), (21, 4, 0, 1, 2, []), (22, 6, 0, 1, 3, []), (23, 75, 4138, 85, 4, [161, 9]), (26, 1, -1, 0, 0, []), (27, 56, 1, 0, 1, []), (30, 1, 1, 0, 0, []), (31, 57, 0, 0, 2, [])]
def bX9_isStale_1 : List In := [(34, 1, 0, 0, 0, []), (35, 58, 0, 0, 2, [])]
def bX9_isStale_2 : List In := [(35, 61, 0, 0, 0, [])]
def BX9_isStale : List (List In) := [bX9_isStale_0, bX9_isStale_1, bX9_isStale_2]
set_option maxRecDepth 100000 in
theorem mkX9_isStale : MkB 181 BX9_isStale := MkB_of (by decide +kernel)
theorem lX9_isStale : (sgD 181).2.2.1 = 4 := rfl
theorem eX9_isStale_0 : BX9_isStale.getD 0 [] = bX9_isStale_0 := rfl
theorem eX9_isStale_1 : BX9_isStale.getD 1 [] = bX9_isStale_1 := rfl
theorem eX9_isStale_2 : BX9_isStale.getD 2 [] = bX9_isStale_2 := rfl
def bX9_isUnlike_0 : List In := [(0, 6, 0, 1, 3, []), (1, 4, 0, 1, 2, []), (2, 75, 4136, 78, 2, [74, 0]), (5, 55, 0, 0, 1, []), (8, 6, 0, 1, 0, []), (9, 4, 0, 1, 1, []), (10, 4, 0, 1, 2, []), (11, 6, 0, 1, 3, []), (12, 75, 4138, 85, 4, [161, 9]), (15, 57, 0, 0, 2, [])]
def bX9_isUnlike_1 : List In := [(18, 1, -1, 0, 0, []), (19, 58, 0, 0, 2, [])]
def bX9_isUnlike_2 : List In := [(19, 7, 0, 0, 4, []), (21, 4, 0, 0, 4, []), (23, 1, -1, 0, 0, []), (24, 56, 1, 0, 3, []), (27, 1, 0, 0, 0, []), (28, 61, 0, 0, 0, [])]
def bX9_isUnlike_3 : List In := [(29, 1, 0, 0, 0, []), (30, 7, 0, 0, 5, []), (32, 58, 0, 0, 1004, [])]
def bX9_isUnlike_4 : List In := [(32, 4, 0, 0, 5, []), (34, 6, 0, 1, 0, []), (35, 37, 10, 0, 9, [55, 1201]), (38, 56, 3, 0, 7, []), (41, 6, 0, 1, 0, []), (42, 39, 7, 0, 9, [537002033, 27, 1198]), (45, 4, 0, 0, 5, []), (47, 45, 0, 0, 0, []), (48, 4, 0, 1, 1, []), (49, 56, 0, 0, 5, []), (52, 57, 0, 0, 6, [])]
def bX9_isUnlike_5 : List In := [(55, 6, 0, 1, 0, []), (56, 4, 0, 0, 4, []), (58, 78, 4142, 63, 2, [71, 9]), (61, 6, 0, 1, 0, []), (62, 39, 8, 0, 9, [553779249, 30, 1199]), (65, 4, 0, 0, 5, []), (67, 45, 0, 0, 0, []), (68, 75, 4182, 89, 2, [61, 6]), (71, 6, 0, 1, 0, []), (72, 39, 5, 0, 9, [2130837700, 23, 1193]), (75, 4, 0, 0, 4, []), (77, 48, 0, 0, 0, []), (78, 6, 0, 1, 0, []), (79, 39, 9, 0, 9, [570556465, 33, 1200]), (82, 4, 0, 0, 5, []), (84, 45, 0, 0, 0, []), (85, 75, 4182, 89, 2, [61, 6]), (88, 56, 0, 0, 6, []), (91, 1, 1, 0, 0, []), (92, 61, 0, 0, 0, [])]
def bX9_isUnlike_6 : List In := [(93, 10, 1, 0, 5, []), (96, 57, 0, 0, 1004, [])]
def bX9_isUnlike_7 : List In := [(99, 1, 0, 0, 0, []), (100, 61, 0, 0, 0, [])]
def BX9_isUnlike : List (List In) := [bX9_isUnlike_0, bX9_isUnlike_1, bX9_isUnlike_2, bX9_isUnlike_3, bX9_isUnlike_4, bX9_isUnlike_5, bX9_isUnlike_6, bX9_isUnlike_7]
set_option maxRecDepth 100000 in
theorem mkX9_isUnlike : MkB 182 BX9_isUnlike := MkB_of (by decide +kernel)
theorem lX9_isUnlike : (sgD 182).2.2.1 = 6 := rfl
theorem eX9_isUnlike_0 : BX9_isUnlike.getD 0 [] = bX9_isUnlike_0 := rfl
theorem eX9_isUnlike_1 : BX9_isUnlike.getD 1 [] = bX9_isUnlike_1 := rfl
theorem eX9_isUnlike_2 : BX9_isUnlike.getD 2 [] = bX9_isUnlike_2 := rfl
theorem eX9_isUnlike_3 : BX9_isUnlike.getD 3 [] = bX9_isUnlike_3 := rfl
theorem eX9_isUnlike_4 : BX9_isUnlike.getD 4 [] = bX9_isUnlike_4 := rfl
theorem eX9_isUnlike_5 : BX9_isUnlike.getD 5 [] = bX9_isUnlike_5 := rfl
theorem eX9_isUnlike_6 : BX9_isUnlike.getD 6 [] = bX9_isUnlike_6 := rfl
theorem eX9_isUnlike_7 : BX9_isUnlike.getD 7 [] = bX9_isUnlike_7 := rfl
def bX0_work_0 : List In := [(0, 6, 0, 1, 0, []), (1, 5, 0, 1, 1, []), (2, 43, 1, 0, 0, [46, 2020]), (5, 6, 0, 1, 0, []), (6, 4, 0, 1, 3, []), (7, 42, 2, 0, 0, [50, 2021]), (10, 6, 0, 1, 0, []), (11, 79, 3033, 54, 1, [4, 0]), (14, 1, 0, 0, 0, []), (15, 7, 0, 0, 4, []), (17, 58, 0, 0, 1001, [])]
def bX0_work_1 : List In := [(17, 4, 0, 0, 4, []), (19, 6, 0, 1, 0, []), (20, 39, 0, 0, 0, [33685536, 42, 2019]), (23, 37, 11, 0, 4, [57, 1094]), (26, 56, 3, 0, 4, []), (29, 6, 0, 1, 0, []), (30, 39, 0, 0, 0, [33685536, 42, 2019]), (33, 39, 10, 0, 4, [369230305, 62, 1091]), (36, 4, 0, 0, 4, []), (38, 45, 0, 0, 0, []), (39, 7, 0, 0, 5, []), (41, 6, 0, 1, 0, []), (42, 38, 1, 0, 0, [46, 2020]), (45, 4, 0, 0, 5, []), (47, 65, 3037, 65, 2, [16, 0, 1]), (50, 55, 1, 0, 2, []), (53, 57, 0, 0, 3, [])]
def bX0_work_2 : List In := [(56, 6, 0, 1, 0, []), (57, 40, 6, 0, 0, [654574049, 9, 2025]), (60, 4, 0, 0, 5, []), (62, 6, 0, 1, 0, []), (63, 4, 0, 0, 5, []), (65, 75, 3040, 69, 2, [132, 0]), (68, 50, 0, 0, 0, []), (69, 6, 0, 1, 0, []), (70, 40, 6, 0, 0, [654574049, 9, 2025]), (73, 4, 0, 0, 5, []), (75, 45, 0, 0, 0, []), (76, 55, 1, 0, 3, []), (79, 6, 0, 1, 0, []), (80, 4, 0, 0, 5, []), (82, 79, 3052, 73, 2, [163, 0]), (85, 58, 0, 0, 3, [])]
def bX0_work_3 : List In := [(85, 10, 1, 0, 4, []), (88, 57, 0, 0, 1001, [])]
def bX0_work_4 : List In := [(91, 6, 0, 1, 0, []), (92, 79, 3098, 77, 1, [130, 0]), (95, 64, 0, 0, 0, [])]
def BX0_work : List (List In) := [bX0_work_0, bX0_work_1, bX0_work_2, bX0_work_3, bX0_work_4]
set_option maxRecDepth 100000 in
theorem mkX0_work : MkB 183 BX0_work := MkB_of (by decide +kernel)
theorem lX0_work : (sgD 183).2.2.1 = 6 := rfl
theorem eX0_work_0 : BX0_work.getD 0 [] = bX0_work_0 := rfl
theorem eX0_work_1 : BX0_work.getD 1 [] = bX0_work_1 := rfl
theorem eX0_work_2 : BX0_work.getD 2 [] = bX0_work_2 := rfl
theorem eX0_work_3 : BX0_work.getD 3 [] = bX0_work_3 := rfl
theorem eX0_work_4 : BX0_work.getD 4 [] = bX0_work_4 := rfl
def bX2_isMet_0 : List In := [(0, 6, 0, 1, 0, []), (1, 39, 2, 0, 2, [436338737, 15, 1151]), (4, 4, 0, 1, 1, []), (5, 45, 0, 0, 0, []), (6, 7, 0, 1, 3, []), (7, 4, 0, 1, 3, []), (8, 1, -1, 0, 0, []), (9, 56, 0, 0, 1, []), (12, 6, 0, 1, 2, []), (13, 4, 0, 1, 3, []), (14, 75, 4101, 65, 2, [74, 0]), (17, 55, 1, 0, 1, []), (20, 1, 1, 0, 0, []), (21, 61, 0, 0, 0, [])]
def bX2_isMet_1 : List In := [(22, 6, 0, 1, 0, []), (23, 37, 7, 0, 2, [45, 1157]), (26, 1, 1, 0, 0, []), (27, 12, 0, 0, 0, []), (28, 7, 0, 0, 4, []), (30, 58, 0, 0, 1002, [])]
def bX2_isMet_2 : List In := [(30, 4, 0, 0, 4, []), (32, 55, 2, 0, 5, []), (35, 6, 0, 1, 0, []), (36, 39, 4, 0, 2, [453116065, 18, 1154]), (39, 4, 0, 0, 4, []), (41, 45, 0, 0, 0, []), (42, 6, 0, 1, 0, []), (43, 39, 1, 0, 2, [419561521, 9, 1150]), (46, 4, 0, 1, 1, []), (47, 45, 0, 0, 0, []), (48, 56, 1, 0, 4, []), (51, 6, 0, 1, 2, []), (52, 4, 0, 1, 3, []), (53, 6, 0, 1, 0, []), (54, 39, 5, 0, 2, [469893281, 21, 1155]), (57, 4, 0, 0, 4, []), (59, 45, 0, 0, 0, []), (60, 75, 4102, 69, 3, [6, 0]), (63, 55, 1, 0, 3, []), (66, 57, 0, 0, 4, [])]
def bX2_isMet_3 : List In := [(69, 6, 0, 1, 2, []), (70, 6, 0, 1, 0, []), (71, 39, 5, 0, 2, [469893281, 21, 1155]), (74, 4, 0, 0, 4, []), (76, 45, 0, 0, 0, []), (77, 6, 0, 1, 0, []), (78, 39, 8, 0, 2, [2046953351, 33, 1159]), (81, 79, 4082, 48, 3, [164, 0]), (84, 6, 0, 1, 0, []), (85, 39, 0, 0, 2, [50462744, 37, 1149]), (88, 6, 0, 1, 0, []), (89, 39, 6, 0, 2, [2147614885, 26, 1156]), (92, 4, 0, 0, 4, []), (94, 48, 0, 0, 0, []), (95, 6, 0, 1, 0, []), (96, 39, 8, 0, 2, [2046953351, 33, 1159]), (99, 75, 4103, 73, 3, [112, 3]), (102, 61, 0, 0, 0, [])]
def bX2_isMet_4 : List In := [(103, 10, -1, 0, 4, []), (106, 57, 0, 0, 1002, [])]
def bX2_isMet_5 : List In := [(109, 1, 0, 0, 0, []), (110, 61, 0, 0, 0, [])]
def BX2_isMet : List (List In) := [bX2_isMet_0, bX2_isMet_1, bX2_isMet_2, bX2_isMet_3, bX2_isMet_4, bX2_isMet_5]
set_option maxRecDepth 100000 in
theorem mkX2_isMet : MkB 200 BX2_isMet := MkB_of (by decide +kernel)
theorem lX2_isMet : (sgD 200).2.2.1 = 5 := rfl
theorem eX2_isMet_0 : BX2_isMet.getD 0 [] = bX2_isMet_0 := rfl
theorem eX2_isMet_1 : BX2_isMet.getD 1 [] = bX2_isMet_1 := rfl
theorem eX2_isMet_2 : BX2_isMet.getD 2 [] = bX2_isMet_2 := rfl
theorem eX2_isMet_3 : BX2_isMet.getD 3 [] = bX2_isMet_3 := rfl
theorem eX2_isMet_4 : BX2_isMet.getD 4 [] = bX2_isMet_4 := rfl
theorem eX2_isMet_5 : BX2_isMet.getD 5 [] = bX2_isMet_5 := rfl
def bX9_addPair_0 : List In := [(0, 6, 0, 1, 0, []), (1, 37, 6, 0, 9, [47, 1196]), (4, 1, 24, 1, 0, []), (6, 56, 2, 0, 1, []), (9, 64, 0, 0, 0, [])]
def bX9_addPair_1 : List In := [(10, 6, 0, 1, 0, []), (11, 39, 2, 0, 9, [486670529, 9, 1189]), (14, 6, 0, 1, 0, []), (15, 37, 6, 0, 9, [47, 1196]), (18, 4, 0, 1, 1, []), (19, 50, 0, 0, 0, []), (20, 6, 0, 1, 0, []), (21, 39, 3, 0, 9, [503447745, 15, 1190]), (24, 6, 0, 1, 0, []), (25, 37, 6, 0, 9, [47, 1196]), (28, 4, 0, 1, 2, []), (29, 50, 0, 0, 0, []), (30, 6, 0, 1, 0, []), (31, 39, 4, 0, 9, [520224961, 18, 1192]), (34, 6, 0, 1, 0, []), (35, 37, 6, 0, 9, [47, 1196]), (38, 4, 0, 1, 3, []), (39, 50, 0, 0, 0, []), (40, 6, 0, 1, 0, []), (41, 39, 5, 0, 9, [2130837700, 23, 1193]), (44, 6, 0, 1, 0, []), (45, 37, 6, 0, 9, [47, 1196]), (48, 48, 0, 0, 0, []), (49, 6, 0, 0, 4, []), (51, 79, 4127, 51, 2, [178, 6]), (54, 6, 0, 1, 0, []), (55, 35, 0, 0, 0, []), (56, 37, 6, 0, 9, [47, 1196]), (59, 1, 1, 0, 0, []), (60, 11, 0, 0, 0, []), (61, 42, 6, 0, 9, [47, 1196]), (64, 64, 0, 0, 0, [])]
def BX9_addPair : List (List In) := [bX9_addPair_0, bX9_addPair_1]
set_option maxRecDepth 100000 in
theorem mkX9_addPair : MkB 201 BX9_addPair := MkB_of (by decide +kernel)
theorem lX9_addPair : (sgD 201).2.2.1 = 5 := rfl
theorem eX9_addPair_0 : BX9_addPair.getD 0 [] = bX9_addPair_0 := rfl
theorem eX9_addPair_1 : BX9_addPair.getD 1 [] = bX9_addPair_1 := rfl
def bX2_unmet_0 : List In := [(0, 1, 0, 0, 0, []), (1, 7, 0, 1, 2, []), (2, 1, 0, 0, 0, []), (3, 7, 0, 1, 3, []), (4, 58, 0, 0, 1001, [])]
def bX2_unmet_1 : List In := [(4, 4, 0, 1, 3, []), (5, 6, 0, 1, 0, []), (6, 37, 3, 0, 2, [41, 1152]), (9, 56, 3, 0, 3, []), (12, 6, 0, 1, 0, []), (13, 4, 0, 1, 3, []), (14, 6, 0, 1, 1, []), (15, 75, 4097, 61, 3, [200, 2]), (18, 55, 1, 0, 2, []), (21, 4, 0, 1, 2, []), (22, 1, 1, 0, 0, []), (23, 4, 0, 1, 3, []), (24, 20, 0, 0, 0, []), (25, 18, 0, 0, 0, []), (26, 7, 0, 1, 2, []), (27, 58, 0, 0, 2, [])]
def bX2_unmet_2 : List In := [(27, 10, 1, 0, 3, []), (30, 57, 0, 0, 1001, [])]
def bX2_unmet_3 : List In := [(33, 4, 0, 1, 2, []), (34, 60, 0, 0, 0, [])]
def BX2_unmet : List (List In) := [bX2_unmet_0, bX2_unmet_1, bX2_unmet_2, bX2_unmet_3]
set_option maxRecDepth 100000 in
theorem mkX2_unmet : MkB 217 BX2_unmet := MkB_of (by decide +kernel)
theorem lX2_unmet : (sgD 217).2.2.1 = 4 := rfl
theorem eX2_unmet_0 : BX2_unmet.getD 0 [] = bX2_unmet_0 := rfl
theorem eX2_unmet_1 : BX2_unmet.getD 1 [] = bX2_unmet_1 := rfl
theorem eX2_unmet_2 : BX2_unmet.getD 2 [] = bX2_unmet_2 := rfl
theorem eX2_unmet_3 : BX2_unmet.getD 3 [] = bX2_unmet_3 := rfl
def bX7_make_0 : List In := [(0, 6, 0, 1, 0, []), (1, 40, 2, 0, 7, [117702656, 58, 2134]), (4, 5, 0, 1, 1, []), (5, 4, 0, 1, 3, []), (6, 79, 4210, 68, 3, [183, 0]), (9, 6, 0, 1, 0, []), (10, 6, 0, 0, 4, []), (12, 39, 1, 0, 8, [604110897, 74, 1235]), (15, 4, 0, 0, 5, []), (17, 45, 0, 0, 0, []), (18, 79, 4211, 79, 2, [179, 7]), (21, 6, 0, 1, 0, []), (22, 1, 0, 0, 0, []), (23, 42, 12, 0, 7, [83, 2149]), (26, 6, 0, 1, 0, []), (27, 1, 1, 0, 0, []), (28, 44, 13, 0, 7, [87, 2151]), (31, 58, 0, 0, 1001, [])]
def bX7_make_1 : List In := [(31, 6, 0, 1, 0, []), (32, 37, 13, 0, 7, [87, 2151]), (35, 55, 0, 0, 5, []), (38, 6, 0, 1, 0, []), (39, 37, 12, 0, 7, [83, 2149]), (42, 1, 10, 1, 0, []), (44, 56, 3, 0, 5, []), (47, 6, 0, 1, 0, []), (48, 40, 7, 0, 7, [839123425, 35, 2141]), (51, 1, 0, 0, 0, []), (52, 6, 0, 1, 0, []), (53, 40, 8, 0, 7, [855900641, 38, 2143]), (56, 1, 0, 0, 0, []), (57, 1, 60, 1, 0, []), (59, 70, 4218, 91, 0, []), (62, 6, 0, 1, 0, []), (63, 6, 0, 0, 4, []), (65, 39, 2, 0, 8, [620888113, 97, 1237]), (68, 4, 0, 0, 5, []), (70, 45, 0, 0, 0, []), (71, 6, 0, 0, 4, []), (73, 39, 3, 0, 8, [637665329, 100, 1239]), (76, 4, 0, 0, 5, []), (78, 45, 0, 0, 0, []), (79, 79, 4219, 103, 3, [180, 7]), (82, 6, 0, 1, 0, []), (83, 35, 0, 0, 0, []), (84, 37, 12, 0, 7, [83, 2149]), (87, 1, 1, 0, 0, []), (88, 11, 0, 0, 0, []), (89, 42, 12, 0, 7, [83, 2149]), (92, 6, 0, 1, 0, []), (93, 6, 0, 1, 0, []), (94, 37, 12, 0, 7, [83, 2149]), (97, 1, 1, 0, 0, []), (98, 56, 0, 0, 2, []), (101, 6, 0, 1, 0, []), (102, 75, 5024, 107, 1, [64, 7]), (105, 55, 0, 0, 3, []), (108, 58, 0, 0, 2, [])]
def bX7_make_2 : List In := [(108, 1, 1, 0, 0, []), (109, 57, 0, 0, 4, [])]
def bX7_make_3 : List In := [(112, 1, 0, 0, 0, []), (113, 58, 0, 0, 4, [])]
def bX7_make_4 : List In := [(113, 44, 13, 0, 7, [87, 2151]), (116, 57, 0, 0, 1001, [])]
def bX7_make_5 : List In := [(119, 64, 0, 0, 0, [])]
def BX7_make : List (List In) := [bX7_make_0, bX7_make_1, bX7_make_2, bX7_make_3, bX7_make_4, bX7_make_5]
set_option maxRecDepth 100000 in
theorem mkX7_make : MkB 218 BX7_make := MkB_of (by decide +kernel)
theorem lX7_make : (sgD 218).2.2.1 = 6 := rfl
theorem eX7_make_0 : BX7_make.getD 0 [] = bX7_make_0 := rfl
theorem eX7_make_1 : BX7_make.getD 1 [] = bX7_make_1 := rfl
theorem eX7_make_2 : BX7_make.getD 2 [] = bX7_make_2 := rfl
theorem eX7_make_3 : BX7_make.getD 3 [] = bX7_make_3 := rfl
theorem eX7_make_4 : BX7_make.getD 4 [] = bX7_make_4 := rfl
theorem eX7_make_5 : BX7_make.getD 5 [] = bX7_make_5 := rfl
