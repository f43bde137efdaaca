/-! the methods as blocks -/
def bX10_asBit_0 : List In := [(0, 4, 0, 1, 0, []), (1, 55, 0, 0, 1, []), (4, 1, 1, 0, 0, []), (5, 57, 0, 0, 2, [])]
def bX10_asBit_1 : List In := [(8, 1, 0, 0, 0, []), (9, 58, 0, 0, 2, [])]
def bX10_asBit_2 : List In := [(9, 60, 0, 0, 0, [])]
def BX10_asBit : List (List In) := [bX10_asBit_0, bX10_asBit_1, bX10_asBit_2]
set_option maxRecDepth 100000 in
theorem mkX10_asBit : MkB 13 BX10_asBit := MkB_of (by decide +kernel)
theorem lX10_asBit : (sgD 13).2.2.1 = 1 := rfl
theorem eX10_asBit_0 : BX10_asBit.getD 0 [] = bX10_asBit_0 := rfl
theorem eX10_asBit_1 : BX10_asBit.getD 1 [] = bX10_asBit_1 := rfl
theorem eX10_asBit_2 : BX10_asBit.getD 2 [] = bX10_asBit_2 := rfl
def bX10_bit_0 : List In := [(0, 2, 1, 0, 1, []), (1, 4, 0, 1, 0, []), (2, 29, 0, 0, 0, []), (3, 62, 0, 0, 0, [])]
def BX10_bit : List (List In) := [bX10_bit_0]
set_option maxRecDepth 100000 in
theorem mkX10_bit : MkB 14 BX10_bit := MkB_of (by decide +kernel)
theorem lX10_bit : (sgD 14).2.2.1 = 1 := rfl
theorem eX10_bit_0 : BX10_bit.getD 0 [] = bX10_bit_0 := rfl
def bX10_firm_0 : List In := [(0, 4, 0, 1, 1, []), (1, 55, 0, 0, 1, []), (4, 4, 0, 1, 1, []), (5, 1, 1, 0, 0, []), (6, 56, 0, 0, 1, []), (9, 1, -2, 1, 0, []), (11, 60, 0, 0, 0, [])]
def bX10_firm_1 : List In := [(12, 6, 0, 1, 0, []), (13, 37, 5, 0, 10, [165, 2196]), (16, 7, 0, 1, 2, []), (17, 6, 0, 1, 0, []), (18, 4, 0, 1, 1, []), (19, 42, 5, 0, 10, [165, 2196]), (22, 4, 0, 1, 2, []), (23, 60, 0, 0, 0, [])]
def BX10_firm : List (List In) := [bX10_firm_0, bX10_firm_1]
set_option maxRecDepth 100000 in
theorem mkX10_firm : MkB 15 BX10_firm := MkB_of (by decide +kernel)
theorem lX10_firm : (sgD 15).2.2.1 = 3 := rfl
theorem eX10_firm_0 : BX10_firm.getD 0 [] = bX10_firm_0 := rfl
theorem eX10_firm_1 : BX10_firm.getD 1 [] = bX10_firm_1 := rfl
def bX10_holds_0 : List In := [(0, 4, 0, 1, 2, []), (1, 55, 2, 0, 1, []), (4, 4, 0, 1, 2, []), (5, 1, 60, 1, 0, []), (7, 56, 3, 0, 1, []), (10, 5, 0, 1, 0, []), (11, 4, 0, 1, 2, []), (12, 31, 0, 0, 0, []), (13, 2, 1, 0, 1, []), (14, 26, 0, 0, 0, []), (15, 2, 0, 0, 0, []), (16, 34, 0, 0, 0, []), (17, 55, 0, 0, 1, []), (20, 1, 1, 0, 0, []), (21, 57, 0, 0, 2, [])]
def bX10_holds_1 : List In := [(24, 1, 0, 0, 0, []), (25, 58, 0, 0, 2, [])]
def bX10_holds_2 : List In := [(25, 61, 0, 0, 0, [])]
def BX10_holds : List (List In) := [bX10_holds_0, bX10_holds_1, bX10_holds_2]
set_option maxRecDepth 100000 in
theorem mkX10_holds : MkB 16 BX10_holds := MkB_of (by decide +kernel)
theorem lX10_holds : (sgD 16).2.2.1 = 3 := rfl
theorem eX10_holds_0 : BX10_holds.getD 0 [] = bX10_holds_0 := rfl
theorem eX10_holds_1 : BX10_holds.getD 1 [] = bX10_holds_1 := rfl
theorem eX10_holds_2 : BX10_holds.getD 2 [] = bX10_holds_2 := rfl
def bX10_isChange_0 : List In := [(0, 4, 0, 1, 1, []), (1, 55, 2, 0, 1, []), (4, 4, 0, 1, 1, []), (5, 6, 0, 1, 0, []), (6, 39, 0, 0, 10, [33685536, 12, 2191]), (9, 37, 11, 0, 4, [117, 1096]), (12, 56, 3, 0, 1, []), (15, 1, 1, 0, 0, []), (16, 57, 0, 0, 2, [])]
def bX10_isChange_1 : List In := [(19, 1, 0, 0, 0, []), (20, 58, 0, 0, 2, [])]
def bX10_isChange_2 : List In := [(20, 61, 0, 0, 0, [])]
def BX10_isChange : List (List In) := [bX10_isChange_0, bX10_isChange_1, bX10_isChange_2]
set_option maxRecDepth 100000 in
theorem mkX10_isChange : MkB 17 BX10_isChange := MkB_of (by decide +kernel)
theorem lX10_isChange : (sgD 17).2.2.1 = 2 := rfl
theorem eX10_isChange_0 : BX10_isChange.getD 0 [] = bX10_isChange_0 := rfl
theorem eX10_isChange_1 : BX10_isChange.getD 1 [] = bX10_isChange_1 := rfl
theorem eX10_isChange_2 : BX10_isChange.getD 2 [] = bX10_isChange_2 := rfl
def bX10_isEdition_0 : List In := [(0, 4, 0, 1, 1, []), (1, 55, 2, 0, 1, []), (4, 4, 0, 1, 1, []), (5, 6, 0, 1, 0, []), (6, 39, 9, 0, 10, [100794432, 57, 2200]), (9, 37, 4, 0, 8, [342, 2001]), (12, 56, 3, 0, 1, []), (15, 1, 1, 0, 0, []), (16, 57, 0, 0, 2, [])]
def bX10_isEdition_1 : List In := [(19, 1, 0, 0, 0, []), (20, 58, 0, 0, 2, [])]
def bX10_isEdition_2 : List In := [(20, 61, 0, 0, 0, [])]
def BX10_isEdition : List (List In) := [bX10_isEdition_0, bX10_isEdition_1, bX10_isEdition_2]
set_option maxRecDepth 100000 in
theorem mkX10_isEdition : MkB 18 BX10_isEdition := MkB_of (by decide +kernel)
theorem lX10_isEdition : (sgD 18).2.2.1 = 2 := rfl
theorem eX10_isEdition_0 : BX10_isEdition.getD 0 [] = bX10_isEdition_0 := rfl
theorem eX10_isEdition_1 : BX10_isEdition.getD 1 [] = bX10_isEdition_1 := rfl
theorem eX10_isEdition_2 : BX10_isEdition.getD 2 [] = bX10_isEdition_2 := rfl
def bX10_isHand_0 : List In := [(0, 4, 0, 1, 0, []), (1, 55, 2, 0, 1, []), (4, 4, 0, 1, 0, []), (5, 1, 6, 1, 0, []), (7, 56, 3, 0, 1, []), (10, 1, 1, 0, 0, []), (11, 57, 0, 0, 2, [])]
def bX10_isHand_1 : List In := [(14, 1, 0, 0, 0, []), (15, 58, 0, 0, 2, [])]
def bX10_isHand_2 : List In := [(15, 61, 0, 0, 0, [])]
def BX10_isHand : List (List In) := [bX10_isHand_0, bX10_isHand_1, bX10_isHand_2]
set_option maxRecDepth 100000 in
theorem mkX10_isHand : MkB 19 BX10_isHand := MkB_of (by decide +kernel)
theorem lX10_isHand : (sgD 19).2.2.1 = 1 := rfl
theorem eX10_isHand_0 : BX10_isHand.getD 0 [] = bX10_isHand_0 := rfl
theorem eX10_isHand_1 : BX10_isHand.getD 1 [] = bX10_isHand_1 := rfl
theorem eX10_isHand_2 : BX10_isHand.getD 2 [] = bX10_isHand_2 := rfl
def bX10_isStruckAndUsed_0 : List In := [(0, 4, 0, 1, 0, []), (1, 1, 2, 0, 0, []), (2, 17, 0, 0, 0, []), (3, 55, 0, 0, 1, []), (6, 4, 0, 1, 1, []), (7, 1, 12, 1, 0, []), (9, 17, 0, 0, 0, []), (10, 55, 0, 0, 1, []), (13, 1, 1, 0, 0, []), (14, 57, 0, 0, 2, [])]
def bX10_isStruckAndUsed_1 : List In := [(17, 1, 0, 0, 0, []), (18, 58, 0, 0, 2, [])]
def bX10_isStruckAndUsed_2 : List In := [(18, 61, 0, 0, 0, [])]
def BX10_isStruckAndUsed : List (List In) := [bX10_isStruckAndUsed_0, bX10_isStruckAndUsed_1, bX10_isStruckAndUsed_2]
set_option maxRecDepth 100000 in
theorem mkX10_isStruckAndUsed : MkB 20 BX10_isStruckAndUsed := MkB_of (by decide +kernel)
theorem lX10_isStruckAndUsed : (sgD 20).2.2.1 = 2 := rfl
theorem eX10_isStruckAndUsed_0 : BX10_isStruckAndUsed.getD 0 [] = bX10_isStruckAndUsed_0 := rfl
theorem eX10_isStruckAndUsed_1 : BX10_isStruckAndUsed.getD 1 [] = bX10_isStruckAndUsed_1 := rfl
theorem eX10_isStruckAndUsed_2 : BX10_isStruckAndUsed.getD 2 [] = bX10_isStruckAndUsed_2 := rfl
def bX10_isTongue_0 : List In := [(0, 4, 0, 1, 0, []), (1, 1, 1, 0, 0, []), (2, 56, 2, 0, 1, []), (5, 4, 0, 1, 0, []), (6, 1, 2, 0, 0, []), (7, 56, 4, 0, 1, []), (10, 1, 1, 0, 0, []), (11, 57, 0, 0, 2, [])]
def bX10_isTongue_1 : List In := [(14, 1, 0, 0, 0, []), (15, 58, 0, 0, 2, [])]
def bX10_isTongue_2 : List In := [(15, 61, 0, 0, 0, [])]
def BX10_isTongue : List (List In) := [bX10_isTongue_0, bX10_isTongue_1, bX10_isTongue_2]
set_option maxRecDepth 100000 in
theorem mkX10_isTongue : MkB 21 BX10_isTongue := MkB_of (by decide +kernel)
theorem lX10_isTongue : (sgD 21).2.2.1 = 1 := rfl
theorem eX10_isTongue_0 : BX10_isTongue.getD 0 [] = bX10_isTongue_0 := rfl
theorem eX10_isTongue_1 : BX10_isTongue.getD 1 [] = bX10_isTongue_1 := rfl
theorem eX10_isTongue_2 : BX10_isTongue.getD 2 [] = bX10_isTongue_2 := rfl
def bX10_isWord_0 : List In := [(0, 4, 0, 1, 0, []), (1, 1, 1, 0, 0, []), (2, 56, 2, 0, 1, []), (5, 4, 0, 1, 0, []), (6, 1, 99, 1, 0, []), (8, 56, 4, 0, 1, []), (11, 1, 1, 0, 0, []), (12, 57, 0, 0, 2, [])]
def bX10_isWord_1 : List In := [(15, 1, 0, 0, 0, []), (16, 58, 0, 0, 2, [])]
def bX10_isWord_2 : List In := [(16, 61, 0, 0, 0, [])]
def BX10_isWord : List (List In) := [bX10_isWord_0, bX10_isWord_1, bX10_isWord_2]
set_option maxRecDepth 100000 in
theorem mkX10_isWord : MkB 22 BX10_isWord := MkB_of (by decide +kernel)
theorem lX10_isWord : (sgD 22).2.2.1 = 1 := rfl
theorem eX10_isWord_0 : BX10_isWord.getD 0 [] = bX10_isWord_0 := rfl
theorem eX10_isWord_1 : BX10_isWord.getD 1 [] = bX10_isWord_1 := rfl
theorem eX10_isWord_2 : BX10_isWord.getD 2 [] = bX10_isWord_2 := rfl
def bX10_setOf_0 : List In := [(0, 4, 0, 1, 1, []), (1, 1, 6, 1, 0, []), (3, 56, 3, 0, 1, []), (6, 6, 0, 1, 0, []), (7, 39, 1, 0, 10, [201457715, 16, 2192]), (10, 4, 0, 1, 1, []), (11, 47, 0, 0, 0, []), (12, 57, 0, 0, 2, [])]
def bX10_setOf_1 : List In := [(15, 6, 0, 1, 0, []), (16, 39, 3, 0, 10, [218234947, 26, 2194]), (19, 4, 0, 1, 1, []), (20, 1, 10, 1, 0, []), (22, 12, 0, 0, 0, []), (23, 47, 0, 0, 0, []), (24, 58, 0, 0, 2, [])]
def bX10_setOf_2 : List In := [(24, 62, 0, 0, 0, [])]
def BX10_setOf : List (List In) := [bX10_setOf_0, bX10_setOf_1, bX10_setOf_2]
set_option maxRecDepth 100000 in
theorem mkX10_setOf : MkB 23 BX10_setOf := MkB_of (by decide +kernel)
theorem lX10_setOf : (sgD 23).2.2.1 = 2 := rfl
theorem eX10_setOf_0 : BX10_setOf.getD 0 [] = bX10_setOf_0 := rfl
theorem eX10_setOf_1 : BX10_setOf.getD 1 [] = bX10_setOf_1 := rfl
theorem eX10_setOf_2 : BX10_setOf.getD 2 [] = bX10_setOf_2 := rfl
def bX10_change_0 : List In := [(0, 6, 0, 1, 0, []), (1, 4, 0, 1, 1, []), (2, 75, 3225, 188, 2, [17, 10]), (5, 55, 1, 0, 1, []), (8, 1, -101, 1, 0, []), (10, 60, 0, 0, 0, [])]
def bX10_change_1 : List In := [(11, 4, 0, 1, 2, []), (12, 59, 0, 7, 10, [2, 3, 4, 5, 6, 7, 8, 9])]
def bX10_change_2 : List In := [(60, 6, 0, 1, 0, []), (61, 39, 0, 0, 10, [33685536, 12, 2191]), (64, 39, 0, 0, 4, [235012577, 158, 1062]), (67, 4, 0, 1, 1, []), (68, 45, 0, 0, 0, []), (69, 60, 0, 0, 0, [])]
def bX10_change_3 : List In := [(70, 6, 0, 1, 0, []), (71, 39, 0, 0, 10, [33685536, 12, 2191]), (74, 39, 1, 0, 4, [251789793, 191, 1064]), (77, 4, 0, 1, 1, []), (78, 45, 0, 0, 0, []), (79, 60, 0, 0, 0, [])]
def bX10_change_4 : List In := [(80, 6, 0, 1, 0, []), (81, 39, 0, 0, 10, [33685536, 12, 2191]), (84, 39, 2, 0, 4, [268567009, 194, 1066]), (87, 4, 0, 1, 1, []), (88, 45, 0, 0, 0, []), (89, 60, 0, 0, 0, [])]
def bX10_change_5 : List In := [(90, 6, 0, 1, 0, []), (91, 39, 0, 0, 10, [33685536, 12, 2191]), (94, 39, 3, 0, 4, [285344225, 155, 1069]), (97, 4, 0, 1, 1, []), (98, 45, 0, 0, 0, []), (99, 60, 0, 0, 0, [])]
def bX10_change_6 : List In := [(100, 6, 0, 1, 0, []), (101, 39, 0, 0, 10, [33685536, 12, 2191]), (104, 39, 4, 0, 4, [302121441, 197, 1072]), (107, 4, 0, 1, 1, []), (108, 45, 0, 0, 0, []), (109, 60, 0, 0, 0, [])]
def bX10_change_7 : List In := [(110, 6, 0, 1, 0, []), (111, 39, 0, 0, 10, [33685536, 12, 2191]), (114, 39, 5, 0, 4, [318898657, 200, 1075]), (117, 4, 0, 1, 1, []), (118, 45, 0, 0, 0, []), (119, 60, 0, 0, 0, [])]
def bX10_change_8 : List In := [(120, 6, 0, 1, 0, []), (121, 39, 0, 0, 10, [33685536, 12, 2191]), (124, 39, 6, 0, 4, [335675873, 124, 1077]), (127, 4, 0, 1, 1, []), (128, 45, 0, 0, 0, []), (129, 60, 0, 0, 0, [])]
def bX10_change_9 : List In := [(130, 6, 0, 1, 0, []), (131, 39, 0, 0, 10, [33685536, 12, 2191]), (134, 39, 7, 0, 4, [352453089, 128, 1081]), (137, 4, 0, 1, 1, []), (138, 45, 0, 0, 0, []), (139, 60, 0, 0, 0, [])]
def bX10_change_10 : List In := [(140, 1, -102, 1, 0, []), (142, 60, 0, 0, 0, [])]
def BX10_change : List (List In) := [bX10_change_0, bX10_change_1, bX10_change_2, bX10_change_3, bX10_change_4, bX10_change_5, bX10_change_6, bX10_change_7, bX10_change_8, bX10_change_9, bX10_change_10]
set_option maxRecDepth 100000 in
theorem mkX10_change : MkB 78 BX10_change := MkB_of (by decide +kernel)
theorem lX10_change : (sgD 78).2.2.1 = 3 := rfl
theorem eX10_change_0 : BX10_change.getD 0 [] = bX10_change_0 := rfl
theorem eX10_change_1 : BX10_change.getD 1 [] = bX10_change_1 := rfl
theorem eX10_change_2 : BX10_change.getD 2 [] = bX10_change_2 := rfl
theorem eX10_change_3 : BX10_change.getD 3 [] = bX10_change_3 := rfl
theorem eX10_change_4 : BX10_change.getD 4 [] = bX10_change_4 := rfl
theorem eX10_change_5 : BX10_change.getD 5 [] = bX10_change_5 := rfl
theorem eX10_change_6 : BX10_change.getD 6 [] = bX10_change_6 := rfl
theorem eX10_change_7 : BX10_change.getD 7 [] = bX10_change_7 := rfl
theorem eX10_change_8 : BX10_change.getD 8 [] = bX10_change_8 := rfl
theorem eX10_change_9 : BX10_change.getD 9 [] = bX10_change_9 := rfl
theorem eX10_change_10 : BX10_change.getD 10 [] = bX10_change_10 := rfl
def bX10_fold_0 : List In := [(0, 4, 0, 1, 1, []), (1, 65, 3001, 92, 1, [22, 0]), (4, 55, 0, 0, 1, []), (7, 4, 0, 1, 2, []), (8, 65, 3001, 92, 1, [22, 0]), (11, 55, 0, 0, 1, []), (14, 4, 0, 1, 1, []), (15, 4, 0, 1, 2, []), (16, 56, 1, 0, 2, []), (19, 58, 0, 0, 1, [])]
def bX10_fold_1 : List In := [(19, 1, -2, 1, 0, []), (21, 60, 0, 0, 0, [])]
def bX10_fold_2 : List In := [(22, 6, 0, 1, 0, []), (23, 39, 6, 0, 10, [50462744, 32, 2197]), (26, 37, 2, 0, 3, [296, 1132]), (29, 1, 8, 1, 0, []), (31, 56, 2, 0, 3, []), (34, 1, -4, 1, 0, []), (36, 60, 0, 0, 0, [])]
def bX10_fold_3 : List In := [(37, 6, 0, 1, 0, []), (38, 39, 6, 0, 10, [50462744, 32, 2197]), (41, 4, 0, 1, 1, []), (42, 4, 0, 1, 2, []), (43, 79, 4112, 297, 3, [52, 3]), (46, 6, 0, 1, 0, []), (47, 39, 6, 0, 10, [50462744, 32, 2197]), (50, 37, 2, 0, 3, [296, 1132]), (53, 60, 0, 0, 0, [])]
def BX10_fold : List (List In) := [bX10_fold_0, bX10_fold_1, bX10_fold_2, bX10_fold_3]
set_option maxRecDepth 100000 in
theorem mkX10_fold : MkB 79 BX10_fold := MkB_of (by decide +kernel)
theorem lX10_fold : (sgD 79).2.2.1 = 3 := rfl
theorem eX10_fold_0 : BX10_fold.getD 0 [] = bX10_fold_0 := rfl
theorem eX10_fold_1 : BX10_fold.getD 1 [] = bX10_fold_1 := rfl
theorem eX10_fold_2 : BX10_fold.getD 2 [] = bX10_fold_2 := rfl
theorem eX10_fold_3 : BX10_fold.getD 3 [] = bX10_fold_3 := rfl
def bX10_give_0 : List In := [(0, 4, 0, 1, 1, []), (1, 65, 2238, 88, 1, [19, 0]), (4, 55, 0, 0, 1, []), (7, 4, 0, 1, 2, []), (8, 65, 2238, 88, 1, [19, 0]), (11, 55, 1, 0, 2, []), (14, 58, 0, 0, 1, [])]
def bX10_give_1 : List In := [(14, 1, -1, 0, 0, []), (15, 60, 0, 0, 0, [])]
def bX10_give_2 : List In := [(16, 4, 0, 1, 3, []), (17, 1, 1, 0, 0, []), (18, 56, 2, 0, 3, []), (21, 4, 0, 1, 3, []), (22, 1, 60, 1, 0, []), (24, 56, 5, 0, 4, []), (27, 58, 0, 0, 3, [])]
def bX10_give_3 : List In := [(27, 1, -2, 1, 0, []), (29, 60, 0, 0, 0, [])]
def bX10_give_4 : List In := [(30, 6, 0, 1, 0, []), (31, 39, 1, 0, 10, [201457715, 16, 2192]), (34, 4, 0, 1, 1, []), (35, 47, 0, 0, 0, []), (36, 6, 0, 1, 0, []), (37, 39, 1, 0, 10, [201457715, 16, 2192]), (40, 4, 0, 1, 2, []), (41, 47, 0, 0, 0, []), (42, 2, -1, 1, 0, [176, 3212]), (45, 28, 0, 0, 0, []), (46, 26, 0, 0, 0, []), (47, 8, 0, 0, 4, []), (49, 1, 0, 0, 0, []), (50, 7, 0, 0, 6, []), (52, 1, 0, 0, 0, []), (53, 7, 0, 0, 7, []), (55, 58, 0, 0, 1005, [])]
def bX10_give_5 : List In := [(55, 4, 0, 0, 7, []), (57, 6, 0, 1, 0, []), (58, 39, 0, 0, 10, [33685536, 12, 2191]), (61, 37, 11, 0, 4, [117, 1096]), (64, 56, 3, 0, 7, []), (67, 4, 0, 0, 6, []), (69, 4, 0, 1, 3, []), (70, 56, 3, 0, 7, []), (73, 6, 0, 1, 0, []), (74, 39, 0, 0, 10, [33685536, 12, 2191]), (77, 39, 10, 0, 4, [369230305, 178, 1092]), (80, 4, 0, 0, 7, []), (82, 45, 0, 0, 0, []), (83, 7, 0, 0, 8, []), (85, 5, 0, 0, 4, []), (87, 4, 0, 0, 8, []), (89, 65, 3189, 148, 2, [16, 0]), (92, 55, 0, 0, 6, []), (95, 6, 0, 1, 0, []), (96, 39, 1, 0, 10, [201457715, 16, 2192]), (99, 4, 0, 1, 2, []), (100, 36, 0, 0, 0, []), (101, 47, 0, 0, 0, []), (102, 4, 0, 0, 8, []), (104, 67, 3140, 181, 1, [14, 0]), (107, 27, 0, 0, 0, []), (108, 52, 0, 0, 0, []), (109, 10, 1, 0, 6, []), (112, 58, 0, 0, 6, [])]
def bX10_give_6 : List In := [(112, 10, 1, 0, 7, []), (115, 57, 0, 0, 1005, [])]
def bX10_give_7 : List In := [(118, 4, 0, 0, 6, []), (120, 60, 0, 0, 0, [])]
def BX10_give : List (List In) := [bX10_give_0, bX10_give_1, bX10_give_2, bX10_give_3, bX10_give_4, bX10_give_5, bX10_give_6, bX10_give_7]
set_option maxRecDepth 100000 in
theorem mkX10_give : MkB 80 BX10_give := MkB_of (by decide +kernel)
theorem lX10_give : (sgD 80).2.2.1 = 9 := rfl
theorem eX10_give_0 : BX10_give.getD 0 [] = bX10_give_0 := rfl
theorem eX10_give_1 : BX10_give.getD 1 [] = bX10_give_1 := rfl
theorem eX10_give_2 : BX10_give.getD 2 [] = bX10_give_2 := rfl
theorem eX10_give_3 : BX10_give.getD 3 [] = bX10_give_3 := rfl
theorem eX10_give_4 : BX10_give.getD 4 [] = bX10_give_4 := rfl
theorem eX10_give_5 : BX10_give.getD 5 [] = bX10_give_5 := rfl
theorem eX10_give_6 : BX10_give.getD 6 [] = bX10_give_6 := rfl
theorem eX10_give_7 : BX10_give.getD 7 [] = bX10_give_7 := rfl
def bX10_isClash_0 : List In := [(0, 4, 0, 1, 0, []), (1, 1, 4, 0, 0, []), (2, 56, 1, 0, 4, []), (5, 4, 0, 1, 1, []), (6, 4, 0, 1, 2, []), (7, 65, 4059, 438, 2, [20, 0]), (10, 55, 1, 0, 1, []), (13, 4, 0, 1, 2, []), (14, 4, 0, 1, 1, []), (15, 65, 4059, 438, 2, [20, 0]), (18, 55, 0, 0, 2, []), (21, 58, 0, 0, 1, [])]
def bX10_isClash_1 : List In := [(21, 1, 1, 0, 0, []), (22, 57, 0, 0, 3, [])]
def bX10_isClash_2 : List In := [(25, 1, 0, 0, 0, []), (26, 58, 0, 0, 3, [])]
def bX10_isClash_3 : List In := [(26, 61, 0, 0, 0, [])]
def bX10_isClash_4 : List In := [(27, 4, 0, 1, 1, []), (28, 4, 0, 1, 2, []), (29, 17, 0, 0, 0, []), (30, 1, 1, 0, 0, []), (31, 4, 0, 1, 0, []), (32, 1, 2, 0, 0, []), (33, 11, 0, 0, 0, []), (34, 20, 0, 0, 0, []), (35, 17, 0, 0, 0, []), (36, 55, 0, 0, 5, []), (39, 1, 1, 0, 0, []), (40, 57, 0, 0, 6, [])]
def bX10_isClash_5 : List In := [(43, 1, 0, 0, 0, []), (44, 58, 0, 0, 6, [])]
def bX10_isClash_6 : List In := [(44, 61, 0, 0, 0, [])]
def BX10_isClash : List (List In) := [bX10_isClash_0, bX10_isClash_1, bX10_isClash_2, bX10_isClash_3, bX10_isClash_4, bX10_isClash_5, bX10_isClash_6]
set_option maxRecDepth 100000 in
theorem mkX10_isClash : MkB 81 BX10_isClash := MkB_of (by decide +kernel)
theorem lX10_isClash : (sgD 81).2.2.1 = 3 := rfl
theorem eX10_isClash_0 : BX10_isClash.getD 0 [] = bX10_isClash_0 := rfl
theorem eX10_isClash_1 : BX10_isClash.getD 1 [] = bX10_isClash_1 := rfl
theorem eX10_isClash_2 : BX10_isClash.getD 2 [] = bX10_isClash_2 := rfl
theorem eX10_isClash_3 : BX10_isClash.getD 3 [] = bX10_isClash_3 := rfl
theorem eX10_isClash_4 : BX10_isClash.getD 4 [] = bX10_isClash_4 := rfl
theorem eX10_isClash_5 : BX10_isClash.getD 5 [] = bX10_isClash_5 := rfl
theorem eX10_isClash_6 : BX10_isClash.getD 6 [] = bX10_isClash_6 := rfl
def bX10_isPiece_0 : List In := [(0, 6, 0, 1, 0, []), (1, 4, 0, 1, 1, []), (2, 75, 3225, 188, 2, [17, 10]), (5, 55, 0, 0, 1, []), (8, 6, 0, 1, 0, []), (9, 39, 0, 0, 10, [33685536, 12, 2191]), (12, 39, 0, 0, 4, [235012577, 158, 1062]), (15, 4, 0, 1, 1, []), (16, 45, 0, 0, 0, []), (17, 55, 1, 0, 1, []), (20, 1, 1, 0, 0, []), (21, 57, 0, 0, 2, [])]
def bX10_isPiece_1 : List In := [(24, 1, 0, 0, 0, []), (25, 58, 0, 0, 2, [])]
def bX10_isPiece_2 : List In := [(25, 61, 0, 0, 0, [])]
def BX10_isPiece : List (List In) := [bX10_isPiece_0, bX10_isPiece_1, bX10_isPiece_2]
set_option maxRecDepth 100000 in
theorem mkX10_isPiece : MkB 82 BX10_isPiece := MkB_of (by decide +kernel)
theorem lX10_isPiece : (sgD 82).2.2.1 = 2 := rfl
theorem eX10_isPiece_0 : BX10_isPiece.getD 0 [] = bX10_isPiece_0 := rfl
theorem eX10_isPiece_1 : BX10_isPiece.getD 1 [] = bX10_isPiece_1 := rfl
theorem eX10_isPiece_2 : BX10_isPiece.getD 2 [] = bX10_isPiece_2 := rfl
def bX10_isSource_0 : List In := [(0, 4, 0, 1, 1, []), (1, 65, 2238, 88, 1, [19, 0]), (4, 55, 1, 0, 1, []), (7, 4, 0, 1, 1, []), (8, 1, 10, 1, 0, []), (10, 56, 2, 0, 2, []), (13, 4, 0, 1, 1, []), (14, 1, 10, 1, 0, []), (16, 6, 0, 1, 0, []), (17, 37, 4, 0, 10, [185, 2195]), (20, 11, 0, 0, 0, []), (21, 56, 3, 0, 2, []), (24, 58, 0, 0, 1, [])]
def bX10_isSource_1 : List In := [(24, 1, 1, 0, 0, []), (25, 57, 0, 0, 3, [])]
def bX10_isSource_2 : List In := [(28, 1, 0, 0, 0, []), (29, 58, 0, 0, 3, [])]
def bX10_isSource_3 : List In := [(29, 61, 0, 0, 0, [])]
def BX10_isSource : List (List In) := [bX10_isSource_0, bX10_isSource_1, bX10_isSource_2, bX10_isSource_3]
set_option maxRecDepth 100000 in
theorem mkX10_isSource : MkB 83 BX10_isSource := MkB_of (by decide +kernel)
theorem lX10_isSource : (sgD 83).2.2.1 = 2 := rfl
theorem eX10_isSource_0 : BX10_isSource.getD 0 [] = bX10_isSource_0 := rfl
theorem eX10_isSource_1 : BX10_isSource.getD 1 [] = bX10_isSource_1 := rfl
theorem eX10_isSource_2 : BX10_isSource.getD 2 [] = bX10_isSource_2 := rfl
theorem eX10_isSource_3 : BX10_isSource.getD 3 [] = bX10_isSource_3 := rfl
def bX10_keep_0 : List In := [(0, 4, 0, 1, 1, []), (1, 65, 2238, 88, 1, [19, 0]), (4, 55, 1, 0, 1, []), (7, 1, -1, 0, 0, []), (8, 60, 0, 0, 0, [])]
def bX10_keep_1 : List In := [(9, 6, 0, 1, 0, []), (10, 37, 4, 0, 10, [185, 2195]), (13, 1, 8, 1, 0, []), (15, 56, 2, 0, 2, []), (18, 1, -4, 1, 0, []), (20, 60, 0, 0, 0, [])]
def bX10_keep_2 : List In := [(21, 6, 0, 1, 0, []), (22, 39, 3, 0, 10, [218234947, 26, 2194]), (25, 6, 0, 1, 0, []), (26, 37, 4, 0, 10, [185, 2195]), (29, 6, 0, 1, 0, []), (30, 39, 1, 0, 10, [201457715, 16, 2192]), (33, 4, 0, 1, 1, []), (34, 47, 0, 0, 0, []), (35, 52, 0, 0, 0, []), (36, 6, 0, 1, 0, []), (37, 35, 0, 0, 0, []), (38, 37, 4, 0, 10, [185, 2195]), (41, 1, 1, 0, 0, []), (42, 11, 0, 0, 0, []), (43, 42, 4, 0, 10, [185, 2195]), (46, 1, 10, 1, 0, []), (48, 6, 0, 1, 0, []), (49, 37, 4, 0, 10, [185, 2195]), (52, 11, 0, 0, 0, []), (53, 1, 1, 0, 0, []), (54, 12, 0, 0, 0, []), (55, 60, 0, 0, 0, [])]
def BX10_keep : List (List In) := [bX10_keep_0, bX10_keep_1, bX10_keep_2]
set_option maxRecDepth 100000 in
theorem mkX10_keep : MkB 84 BX10_keep := MkB_of (by decide +kernel)
theorem lX10_keep : (sgD 84).2.2.1 = 2 := rfl
theorem eX10_keep_0 : BX10_keep.getD 0 [] = bX10_keep_0 := rfl
theorem eX10_keep_1 : BX10_keep.getD 1 [] = bX10_keep_1 := rfl
theorem eX10_keep_2 : BX10_keep.getD 2 [] = bX10_keep_2 := rfl
def bX10_pair_0 : List In := [(0, 4, 0, 1, 1, []), (1, 55, 2, 0, 1, []), (4, 4, 0, 1, 1, []), (5, 6, 0, 1, 0, []), (6, 39, 8, 0, 10, [84017224, 50, 2199]), (9, 37, 6, 0, 9, [303, 1197]), (12, 56, 2, 0, 2, []), (15, 58, 0, 0, 1, [])]
def bX10_pair_1 : List In := [(15, 1, -1, 0, 0, []), (16, 60, 0, 0, 0, [])]
def bX10_pair_2 : List In := [(17, 4, 0, 1, 2, []), (18, 55, 0, 0, 3, []), (21, 4, 0, 1, 2, []), (22, 1, 1, 0, 0, []), (23, 56, 0, 0, 3, []), (26, 1, -2, 1, 0, []), (28, 60, 0, 0, 0, [])]
def bX10_pair_3 : List In := [(29, 4, 0, 1, 2, []), (30, 55, 1, 0, 4, []), (33, 6, 0, 1, 0, []), (34, 39, 8, 0, 10, [84017224, 50, 2199]), (37, 4, 0, 1, 1, []), (38, 78, 4160, 321, 2, [71, 9]), (41, 57, 0, 0, 5, [])]
def bX10_pair_4 : List In := [(44, 6, 0, 1, 0, []), (45, 39, 8, 0, 10, [84017224, 50, 2199]), (48, 39, 5, 0, 9, [2130837700, 329, 1195]), (51, 4, 0, 1, 1, []), (52, 48, 0, 0, 0, []), (53, 58, 0, 0, 5, [])]
def bX10_pair_5 : List In := [(53, 9, 0, 0, 4, []), (55, 4, 0, 1, 3, []), (56, 55, 2, 0, 6, []), (59, 4, 0, 1, 3, []), (60, 6, 0, 0, 4, []), (62, 37, 1, 0, 6, [102, 1048]), (65, 56, 3, 0, 6, []), (68, 6, 0, 0, 4, []), (70, 41, 0, 0, 6, [0, 251, 1045]), (73, 4, 0, 1, 3, []), (74, 45, 0, 0, 0, []), (75, 57, 0, 0, 7, [])]
def bX10_pair_6 : List In := [(78, 1, -6, 1, 0, []), (80, 58, 0, 0, 7, [])]
def bX10_pair_7 : List In := [(80, 60, 0, 0, 0, [])]
def BX10_pair : List (List In) := [bX10_pair_0, bX10_pair_1, bX10_pair_2, bX10_pair_3, bX10_pair_4, bX10_pair_5, bX10_pair_6, bX10_pair_7]
set_option maxRecDepth 100000 in
theorem mkX10_pair : MkB 85 BX10_pair := MkB_of (by decide +kernel)
theorem lX10_pair : (sgD 85).2.2.1 = 5 := rfl
theorem eX10_pair_0 : BX10_pair.getD 0 [] = bX10_pair_0 := rfl
theorem eX10_pair_1 : BX10_pair.getD 1 [] = bX10_pair_1 := rfl
theorem eX10_pair_2 : BX10_pair.getD 2 [] = bX10_pair_2 := rfl
theorem eX10_pair_3 : BX10_pair.getD 3 [] = bX10_pair_3 := rfl
theorem eX10_pair_4 : BX10_pair.getD 4 [] = bX10_pair_4 := rfl
theorem eX10_pair_5 : BX10_pair.getD 5 [] = bX10_pair_5 := rfl
theorem eX10_pair_6 : BX10_pair.getD 6 [] = bX10_pair_6 := rfl
theorem eX10_pair_7 : BX10_pair.getD 7 [] = bX10_pair_7 := rfl
def bX10_term_0 : List In := [(0, 4, 0, 1, 1, []), (1, 65, 4120, 300, 1, [21, 0]), (4, 55, 1, 0, 1, []), (7, 1, -1, 0, 0, []), (8, 60, 0, 0, 0, [])]
def bX10_term_1 : List In := [(9, 4, 0, 1, 2, []), (10, 65, 3001, 92, 1, [22, 0]), (13, 55, 0, 0, 2, []), (16, 4, 0, 1, 3, []), (17, 65, 3001, 92, 1, [22, 0]), (20, 55, 1, 0, 3, []), (23, 58, 0, 0, 2, [])]
def bX10_term_2 : List In := [(23, 1, -2, 1, 0, []), (25, 60, 0, 0, 0, [])]
def bX10_term_3 : List In := [(26, 6, 0, 1, 0, []), (27, 39, 8, 0, 10, [84017224, 50, 2199]), (30, 37, 10, 0, 9, [332, 1202]), (33, 1, 6, 1, 0, []), (35, 56, 2, 0, 4, []), (38, 1, -4, 1, 0, []), (40, 60, 0, 0, 0, [])]
def bX10_term_4 : List In := [(41, 6, 0, 1, 0, []), (42, 39, 8, 0, 10, [84017224, 50, 2199]), (45, 4, 0, 1, 1, []), (46, 4, 0, 1, 2, []), (47, 4, 0, 1, 3, []), (48, 79, 4170, 335, 4, [70, 9]), (51, 6, 0, 1, 0, []), (52, 39, 8, 0, 10, [84017224, 50, 2199]), (55, 37, 10, 0, 9, [332, 1202]), (58, 60, 0, 0, 0, [])]
def BX10_term : List (List In) := [bX10_term_0, bX10_term_1, bX10_term_2, bX10_term_3, bX10_term_4]
set_option maxRecDepth 100000 in
theorem mkX10_term : MkB 86 BX10_term := MkB_of (by decide +kernel)
theorem lX10_term : (sgD 86).2.2.1 = 4 := rfl
theorem eX10_term_0 : BX10_term.getD 0 [] = bX10_term_0 := rfl
theorem eX10_term_1 : BX10_term.getD 1 [] = bX10_term_1 := rfl
theorem eX10_term_2 : BX10_term.getD 2 [] = bX10_term_2 := rfl
theorem eX10_term_3 : BX10_term.getD 3 [] = bX10_term_3 := rfl
theorem eX10_term_4 : BX10_term.getD 4 [] = bX10_term_4 := rfl
def bX10_told_0 : List In := [(0, 4, 0, 1, 1, []), (1, 1, 10, 1, 0, []), (3, 56, 2, 0, 1, []), (6, 4, 0, 1, 1, []), (7, 1, 16, 1, 0, []), (9, 56, 3, 0, 1, []), (12, 6, 0, 1, 0, []), (13, 39, 1, 0, 10, [201457715, 16, 2192]), (16, 4, 0, 1, 1, []), (17, 1, 10, 1, 0, []), (19, 12, 0, 0, 0, []), (20, 47, 0, 0, 0, []), (21, 65, 5105, 423, 1, [0, 0]), (24, 60, 0, 0, 0, [])]
def bX10_told_1 : List In := [(25, 4, 0, 1, 1, []), (26, 1, 20, 1, 0, []), (28, 56, 2, 0, 2, []), (31, 4, 0, 1, 1, []), (32, 1, 26, 1, 0, []), (34, 56, 3, 0, 2, []), (37, 6, 0, 1, 0, []), (38, 39, 2, 0, 10, [2097283124, 22, 2193]), (41, 4, 0, 1, 1, []), (42, 1, 20, 1, 0, []), (44, 12, 0, 0, 0, []), (45, 48, 0, 0, 0, []), (46, 37, 1, 0, 6, [102, 1048]), (49, 60, 0, 0, 0, [])]
def bX10_told_2 : List In := [(50, 4, 0, 1, 1, []), (51, 59, 0, 8, 12, [3, 4, 5, 6, 7, 8, 9, 10, 11])]
def bX10_told_3 : List In := [(100, 6, 0, 1, 0, []), (101, 39, 0, 0, 10, [33685536, 12, 2191]), (104, 37, 11, 0, 4, [117, 1096]), (107, 60, 0, 0, 0, [])]
def bX10_told_4 : List In := [(108, 6, 0, 1, 0, []), (109, 37, 4, 0, 10, [185, 2195]), (112, 60, 0, 0, 0, [])]
def bX10_told_5 : List In := [(113, 6, 0, 1, 0, []), (114, 39, 7, 0, 10, [67239952, 41, 2198]), (117, 37, 3, 0, 2, [278, 1153]), (120, 60, 0, 0, 0, [])]
def bX10_told_6 : List In := [(121, 6, 0, 1, 0, []), (122, 39, 7, 0, 10, [67239952, 41, 2198]), (125, 37, 7, 0, 2, [285, 1158]), (128, 60, 0, 0, 0, [])]
def bX10_told_7 : List In := [(129, 6, 0, 1, 0, []), (130, 39, 6, 0, 10, [50462744, 32, 2197]), (133, 37, 2, 0, 3, [296, 1132]), (136, 60, 0, 0, 0, [])]
def bX10_told_8 : List In := [(137, 6, 0, 1, 0, []), (138, 39, 8, 0, 10, [84017224, 50, 2199]), (141, 37, 6, 0, 9, [303, 1197]), (144, 60, 0, 0, 0, [])]
def bX10_told_9 : List In := [(145, 6, 0, 1, 0, []), (146, 39, 8, 0, 10, [84017224, 50, 2199]), (149, 37, 10, 0, 9, [332, 1202]), (152, 60, 0, 0, 0, [])]
def bX10_told_10 : List In := [(153, 6, 0, 1, 0, []), (154, 39, 9, 0, 10, [100794432, 57, 2200]), (157, 37, 4, 0, 8, [342, 2001]), (160, 60, 0, 0, 0, [])]
def bX10_told_11 : List In := [(161, 6, 0, 1, 0, []), (162, 37, 5, 0, 10, [165, 2196]), (165, 60, 0, 0, 0, [])]
def bX10_told_12 : List In := [(166, 1, -2, 1, 0, []), (168, 60, 0, 0, 0, [])]
def BX10_told : List (List In) := [bX10_told_0, bX10_told_1, bX10_told_2, bX10_told_3, bX10_told_4, bX10_told_5, bX10_told_6, bX10_told_7, bX10_told_8, bX10_told_9, bX10_told_10, bX10_told_11, bX10_told_12]
set_option maxRecDepth 100000 in
theorem mkX10_told : MkB 87 BX10_told := MkB_of (by decide +kernel)
theorem lX10_told : (sgD 87).2.2.1 = 2 := rfl
theorem eX10_told_0 : BX10_told.getD 0 [] = bX10_told_0 := rfl
theorem eX10_told_1 : BX10_told.getD 1 [] = bX10_told_1 := rfl
theorem eX10_told_2 : BX10_told.getD 2 [] = bX10_told_2 := rfl
theorem eX10_told_3 : BX10_told.getD 3 [] = bX10_told_3 := rfl
theorem eX10_told_4 : BX10_told.getD 4 [] = bX10_told_4 := rfl
theorem eX10_told_5 : BX10_told.getD 5 [] = bX10_told_5 := rfl
theorem eX10_told_6 : BX10_told.getD 6 [] = bX10_told_6 := rfl
theorem eX10_told_7 : BX10_told.getD 7 [] = bX10_told_7 := rfl
theorem eX10_told_8 : BX10_told.getD 8 [] = bX10_told_8 := rfl
theorem eX10_told_9 : BX10_told.getD 9 [] = bX10_told_9 := rfl
theorem eX10_told_10 : BX10_told.getD 10 [] = bX10_told_10 := rfl
theorem eX10_told_11 : BX10_told.getD 11 [] = bX10_told_11 := rfl
theorem eX10_told_12 : BX10_told.getD 12 [] = bX10_told_12 := rfl
def bX10_clash_0 : List In := [(0, 6, 0, 1, 0, []), (1, 4, 0, 1, 1, []), (2, 75, 3233, 203, 2, [83, 10]), (5, 55, 0, 0, 1, []), (8, 6, 0, 1, 0, []), (9, 4, 0, 1, 2, []), (10, 75, 3233, 203, 2, [83, 10]), (13, 55, 1, 0, 2, []), (16, 58, 0, 0, 1, [])]
def bX10_clash_1 : List In := [(16, 1, -1, 0, 0, []), (17, 60, 0, 0, 0, [])]
def bX10_clash_2 : List In := [(18, 6, 0, 1, 0, []), (19, 4, 0, 1, 1, []), (20, 77, 3025, 267, 2, [23, 10]), (23, 6, 0, 1, 0, []), (24, 4, 0, 1, 2, []), (25, 77, 3025, 267, 2, [23, 10]), (28, 2, -1, 1, 0, [176, 3212]), (31, 28, 0, 0, 0, []), (32, 26, 0, 0, 0, []), (33, 8, 0, 0, 4, []), (35, 6, 0, 1, 0, []), (36, 4, 0, 1, 2, []), (37, 77, 3025, 267, 2, [23, 10]), (40, 6, 0, 1, 0, []), (41, 4, 0, 1, 1, []), (42, 77, 3025, 267, 2, [23, 10]), (45, 2, -1, 1, 0, [176, 3212]), (48, 28, 0, 0, 0, []), (49, 26, 0, 0, 0, []), (50, 8, 0, 0, 6, []), (52, 1, 0, 0, 0, []), (53, 7, 0, 0, 8, []), (55, 1, 0, 0, 0, []), (56, 7, 0, 0, 9, []), (58, 58, 0, 0, 1003, [])]
def bX10_clash_3 : List In := [(58, 4, 0, 0, 9, []), (60, 6, 0, 1, 0, []), (61, 39, 0, 0, 10, [33685536, 12, 2191]), (64, 37, 11, 0, 4, [117, 1096]), (67, 56, 3, 0, 9, []), (70, 6, 0, 1, 0, []), (71, 39, 0, 0, 10, [33685536, 12, 2191]), (74, 4, 0, 0, 9, []), (76, 5, 0, 0, 4, []), (78, 75, 4052, 270, 3, [118, 4]), (81, 7, 0, 0, 10, []), (83, 6, 0, 1, 0, []), (84, 39, 0, 0, 10, [33685536, 12, 2191]), (87, 4, 0, 0, 9, []), (89, 5, 0, 0, 6, []), (91, 75, 4052, 270, 3, [118, 4]), (94, 7, 0, 0, 11, []), (96, 1, 0, 0, 0, []), (97, 7, 0, 0, 12, []), (99, 58, 0, 0, 1004, [])]
def bX10_clash_4 : List In := [(99, 4, 0, 0, 12, []), (101, 1, 4, 0, 0, []), (102, 56, 4, 0, 8, []), (105, 4, 0, 0, 12, []), (107, 4, 0, 0, 10, []), (109, 4, 0, 0, 11, []), (111, 65, 4056, 274, 3, [81, 0]), (114, 55, 1, 0, 5, []), (117, 57, 0, 0, 7, [])]
def bX10_clash_5 : List In := [(120, 4, 0, 0, 8, []), (122, 4, 0, 1, 3, []), (123, 56, 1, 0, 6, []), (126, 1, 10, 1, 0, []), (128, 4, 0, 0, 9, []), (130, 13, 0, 0, 0, []), (131, 4, 0, 0, 12, []), (133, 11, 0, 0, 0, []), (134, 60, 0, 0, 0, [])]
def bX10_clash_6 : List In := [(135, 10, 1, 0, 8, []), (138, 58, 0, 0, 7, [])]
def bX10_clash_7 : List In := [(138, 10, 1, 0, 12, []), (141, 57, 0, 0, 1004, [])]
def bX10_clash_8 : List In := [(144, 10, 1, 0, 9, []), (147, 57, 0, 0, 1003, [])]
def bX10_clash_9 : List In := [(150, 4, 0, 1, 3, []), (151, 1, -1, 0, 0, []), (152, 56, 1, 0, 10, []), (155, 4, 0, 0, 8, []), (157, 57, 0, 0, 11, [])]
def bX10_clash_10 : List In := [(160, 1, -6, 1, 0, []), (162, 58, 0, 0, 11, [])]
def bX10_clash_11 : List In := [(162, 60, 0, 0, 0, [])]
def BX10_clash : List (List In) := [bX10_clash_0, bX10_clash_1, bX10_clash_2, bX10_clash_3, bX10_clash_4, bX10_clash_5, bX10_clash_6, bX10_clash_7, bX10_clash_8, bX10_clash_9, bX10_clash_10, bX10_clash_11]
set_option maxRecDepth 100000 in
theorem mkX10_clash : MkB 133 BX10_clash := MkB_of (by decide +kernel)
theorem lX10_clash : (sgD 133).2.2.1 = 13 := rfl
theorem eX10_clash_0 : BX10_clash.getD 0 [] = bX10_clash_0 := rfl
theorem eX10_clash_1 : BX10_clash.getD 1 [] = bX10_clash_1 := rfl
theorem eX10_clash_2 : BX10_clash.getD 2 [] = bX10_clash_2 := rfl
theorem eX10_clash_3 : BX10_clash.getD 3 [] = bX10_clash_3 := rfl
theorem eX10_clash_4 : BX10_clash.getD 4 [] = bX10_clash_4 := rfl
theorem eX10_clash_5 : BX10_clash.getD 5 [] = bX10_clash_5 := rfl
theorem eX10_clash_6 : BX10_clash.getD 6 [] = bX10_clash_6 := rfl
theorem eX10_clash_7 : BX10_clash.getD 7 [] = bX10_clash_7 := rfl
theorem eX10_clash_8 : BX10_clash.getD 8 [] = bX10_clash_8 := rfl
theorem eX10_clash_9 : BX10_clash.getD 9 [] = bX10_clash_9 := rfl
theorem eX10_clash_10 : BX10_clash.getD 10 [] = bX10_clash_10 := rfl
theorem eX10_clash_11 : BX10_clash.getD 11 [] = bX10_clash_11 := rfl
def bX10_edition_0 : List In := [(0, 6, 0, 1, 0, []), (1, 4, 0, 1, 1, []), (2, 75, 3233, 203, 2, [83, 10]), (5, 55, 0, 0, 1, []), (8, 4, 0, 1, 2, []), (9, 55, 0, 0, 2, []), (12, 4, 0, 1, 2, []), (13, 65, 4120, 300, 1, [21, 0]), (16, 55, 1, 0, 2, []), (19, 58, 0, 0, 1, [])]
def bX10_edition_1 : List In := [(19, 1, -1, 0, 0, []), (20, 60, 0, 0, 0, [])]
def bX10_edition_2 : List In := [(21, 4, 0, 1, 3, []), (22, 1, 10, 1, 0, []), (24, 56, 2, 0, 3, []), (27, 4, 0, 1, 3, []), (28, 1, 60, 1, 0, []), (30, 56, 4, 0, 3, []), (33, 4, 0, 0, 4, []), (35, 1, 10, 1, 0, []), (37, 56, 2, 0, 3, []), (40, 4, 0, 0, 4, []), (42, 1, 20, 1, 0, []), (44, 56, 5, 0, 4, []), (47, 58, 0, 0, 3, [])]
def bX10_edition_3 : List In := [(47, 1, -2, 1, 0, []), (49, 60, 0, 0, 0, [])]
def bX10_edition_4 : List In := [(50, 6, 0, 1, 0, []), (51, 39, 9, 0, 10, [100794432, 57, 2200]), (54, 37, 4, 0, 8, [342, 2001]), (57, 1, 6, 1, 0, []), (59, 56, 2, 0, 5, []), (62, 1, -4, 1, 0, []), (64, 60, 0, 0, 0, [])]
def bX10_edition_5 : List In := [(65, 6, 0, 1, 0, []), (66, 39, 9, 0, 10, [100794432, 57, 2200]), (69, 6, 0, 1, 0, []), (70, 4, 0, 1, 1, []), (71, 77, 3025, 267, 2, [23, 10]), (74, 4, 0, 1, 2, []), (75, 4, 0, 1, 3, []), (76, 4, 0, 0, 4, []), (78, 79, 4190, 343, 5, [69, 8]), (81, 6, 0, 1, 0, []), (82, 39, 9, 0, 10, [100794432, 57, 2200]), (85, 37, 4, 0, 8, [342, 2001]), (88, 1, 1, 0, 0, []), (89, 12, 0, 0, 0, []), (90, 60, 0, 0, 0, [])]
def BX10_edition : List (List In) := [bX10_edition_0, bX10_edition_1, bX10_edition_2, bX10_edition_3, bX10_edition_4, bX10_edition_5]
set_option maxRecDepth 100000 in
theorem mkX10_edition : MkB 134 BX10_edition := MkB_of (by decide +kernel)
theorem lX10_edition : (sgD 134).2.2.1 = 5 := rfl
theorem eX10_edition_0 : BX10_edition.getD 0 [] = bX10_edition_0 := rfl
theorem eX10_edition_1 : BX10_edition.getD 1 [] = bX10_edition_1 := rfl
theorem eX10_edition_2 : BX10_edition.getD 2 [] = bX10_edition_2 := rfl
theorem eX10_edition_3 : BX10_edition.getD 3 [] = bX10_edition_3 := rfl
theorem eX10_edition_4 : BX10_edition.getD 4 [] = bX10_edition_4 := rfl
theorem eX10_edition_5 : BX10_edition.getD 5 [] = bX10_edition_5 := rfl
def bX10_isSeenInBoth_0 : List In := [(0, 6, 0, 1, 0, []), (1, 39, 10, 0, 10, [117702656, 66, 2201]), (4, 4, 0, 1, 1, []), (5, 75, 4017, 225, 2, [74, 0]), (8, 55, 0, 0, 1, []), (11, 6, 0, 1, 0, []), (12, 72, 11, 0, 10, [117702656, 70, 2202]), (15, 4, 0, 1, 1, []), (16, 75, 4017, 225, 2, [74, 0]), (19, 55, 0, 0, 1, []), (22, 1, 1, 0, 0, []), (23, 57, 0, 0, 2, [])]
def bX10_isSeenInBoth_1 : List In := [(26, 1, 0, 0, 0, []), (27, 58, 0, 0, 2, [])]
def bX10_isSeenInBoth_2 : List In := [(27, 61, 0, 0, 0, [])]
def BX10_isSeenInBoth : List (List In) := [bX10_isSeenInBoth_0, bX10_isSeenInBoth_1, bX10_isSeenInBoth_2]
set_option maxRecDepth 100000 in
theorem mkX10_isSeenInBoth : MkB 135 BX10_isSeenInBoth := MkB_of (by decide +kernel)
theorem lX10_isSeenInBoth : (sgD 135).2.2.1 = 2 := rfl
theorem eX10_isSeenInBoth_0 : BX10_isSeenInBoth.getD 0 [] = bX10_isSeenInBoth_0 := rfl
theorem eX10_isSeenInBoth_1 : BX10_isSeenInBoth.getD 1 [] = bX10_isSeenInBoth_1 := rfl
theorem eX10_isSeenInBoth_2 : BX10_isSeenInBoth.getD 2 [] = bX10_isSeenInBoth_2 := rfl
def bX10_rule_0 : List In := [(0, 4, 0, 1, 1, []), (1, 65, 2238, 88, 1, [19, 0]), (4, 55, 0, 0, 1, []), (7, 4, 0, 1, 2, []), (8, 1, -1, 0, 0, []), (9, 56, 0, 0, 2, []), (12, 6, 0, 1, 0, []), (13, 4, 0, 1, 2, []), (14, 75, 4012, 219, 2, [82, 10]), (17, 55, 1, 0, 2, []), (20, 58, 0, 0, 1, [])]
def bX10_rule_1 : List In := [(20, 1, -1, 0, 0, []), (21, 60, 0, 0, 0, [])]
def bX10_rule_2 : List In := [(22, 6, 0, 1, 0, []), (23, 39, 7, 0, 10, [67239952, 41, 2198]), (26, 37, 3, 0, 2, [278, 1153]), (29, 1, 6, 1, 0, []), (31, 56, 2, 0, 3, []), (34, 1, -4, 1, 0, []), (36, 60, 0, 0, 0, [])]
def bX10_rule_3 : List In := [(37, 6, 0, 1, 0, []), (38, 39, 7, 0, 10, [67239952, 41, 2198]), (41, 4, 0, 1, 1, []), (42, 4, 0, 1, 2, []), (43, 79, 4070, 281, 3, [51, 2]), (46, 6, 0, 1, 0, []), (47, 39, 7, 0, 10, [67239952, 41, 2198]), (50, 37, 3, 0, 2, [278, 1153]), (53, 60, 0, 0, 0, [])]
def BX10_rule : List (List In) := [bX10_rule_0, bX10_rule_1, bX10_rule_2, bX10_rule_3]
set_option maxRecDepth 100000 in
theorem mkX10_rule : MkB 136 BX10_rule := MkB_of (by decide +kernel)
theorem lX10_rule : (sgD 136).2.2.1 = 3 := rfl
theorem eX10_rule_0 : BX10_rule.getD 0 [] = bX10_rule_0 := rfl
theorem eX10_rule_1 : BX10_rule.getD 1 [] = bX10_rule_1 := rfl
theorem eX10_rule_2 : BX10_rule.getD 2 [] = bX10_rule_2 := rfl
theorem eX10_rule_3 : BX10_rule.getD 3 [] = bX10_rule_3 := rfl
def bX10_word_0 : List In := [(0, 4, 0, 1, 1, []), (1, 65, 2238, 88, 1, [19, 0]), (4, 55, 1, 0, 1, []), (7, 1, -1, 0, 0, []), (8, 60, 0, 0, 0, [])]
def bX10_word_1 : List In := [(9, 4, 0, 1, 2, []), (10, 65, 3001, 92, 1, [22, 0]), (13, 55, 1, 0, 2, []), (16, 1, -2, 1, 0, []), (18, 60, 0, 0, 0, [])]
def bX10_word_2 : List In := [(19, 6, 0, 1, 0, []), (20, 39, 2, 0, 10, [2097283124, 22, 2193]), (23, 4, 0, 1, 1, []), (24, 48, 0, 0, 0, []), (25, 75, 3004, 95, 1, [62, 6]), (28, 55, 0, 0, 3, []), (31, 1, -4, 1, 0, []), (33, 60, 0, 0, 0, [])]
def bX10_word_3 : List In := [(34, 6, 0, 1, 0, []), (35, 39, 2, 0, 10, [2097283124, 22, 2193]), (38, 4, 0, 1, 1, []), (39, 48, 0, 0, 0, []), (40, 4, 0, 1, 2, []), (41, 79, 3008, 99, 2, [120, 6]), (44, 6, 0, 1, 0, []), (45, 39, 2, 0, 10, [2097283124, 22, 2193]), (48, 4, 0, 1, 1, []), (49, 48, 0, 0, 0, []), (50, 37, 1, 0, 6, [102, 1048]), (53, 60, 0, 0, 0, [])]
def BX10_word : List (List In) := [bX10_word_0, bX10_word_1, bX10_word_2, bX10_word_3]
set_option maxRecDepth 100000 in
theorem mkX10_word : MkB 137 BX10_word := MkB_of (by decide +kernel)
theorem lX10_word : (sgD 137).2.2.1 = 3 := rfl
theorem eX10_word_0 : BX10_word.getD 0 [] = bX10_word_0 := rfl
theorem eX10_word_1 : BX10_word.getD 1 [] = bX10_word_1 := rfl
theorem eX10_word_2 : BX10_word.getD 2 [] = bX10_word_2 := rfl
theorem eX10_word_3 : BX10_word.getD 3 [] = bX10_word_3 := rfl
def bX10_countOtherNumbers_0 : List In := [(0, 1, 0, 0, 0, []), (1, 7, 0, 1, 1, []), (2, 1, 0, 0, 0, []), (3, 7, 0, 1, 2, []), (4, 58, 0, 0, 1001, [])]
def bX10_countOtherNumbers_1 : List In := [(4, 4, 0, 1, 2, []), (5, 6, 0, 1, 0, []), (6, 39, 0, 0, 10, [33685536, 12, 2191]), (9, 37, 11, 0, 4, [117, 1096]), (12, 56, 3, 0, 3, []), (15, 6, 0, 1, 0, []), (16, 4, 0, 1, 2, []), (17, 75, 5080, 444, 2, [135, 10]), (20, 55, 0, 0, 2, []), (23, 6, 0, 1, 0, []), (24, 39, 12, 0, 10, [134479928, 78, 2203]), (27, 4, 0, 1, 2, []), (28, 75, 5041, 387, 2, [67, 7]), (31, 6, 0, 1, 0, []), (32, 72, 13, 0, 10, [134479928, 82, 2204]), (35, 4, 0, 1, 2, []), (36, 75, 5041, 387, 2, [67, 7]), (39, 56, 0, 0, 2, []), (42, 10, 1, 0, 1, []), (45, 58, 0, 0, 2, [])]
def bX10_countOtherNumbers_2 : List In := [(45, 10, 1, 0, 2, []), (48, 57, 0, 0, 1001, [])]
def bX10_countOtherNumbers_3 : List In := [(51, 4, 0, 1, 1, []), (52, 60, 0, 0, 0, [])]
def BX10_countOtherNumbers : List (List In) := [bX10_countOtherNumbers_0, bX10_countOtherNumbers_1, bX10_countOtherNumbers_2, bX10_countOtherNumbers_3]
set_option maxRecDepth 100000 in
theorem mkX10_countOtherNumbers : MkB 165 BX10_countOtherNumbers := MkB_of (by decide +kernel)
theorem lX10_countOtherNumbers : (sgD 165).2.2.1 = 3 := rfl
theorem eX10_countOtherNumbers_0 : BX10_countOtherNumbers.getD 0 [] = bX10_countOtherNumbers_0 := rfl
theorem eX10_countOtherNumbers_1 : BX10_countOtherNumbers.getD 1 [] = bX10_countOtherNumbers_1 := rfl
theorem eX10_countOtherNumbers_2 : BX10_countOtherNumbers.getD 2 [] = bX10_countOtherNumbers_2 := rfl
theorem eX10_countOtherNumbers_3 : BX10_countOtherNumbers.getD 3 [] = bX10_countOtherNumbers_3 := rfl
def bX10_countSaidOtherwise_0 : List In := [(0, 1, 0, 0, 0, []), (1, 7, 0, 1, 1, []), (2, 1, 0, 0, 0, []), (3, 7, 0, 1, 2, []), (4, 58, 0, 0, 1001, [])]
def bX10_countSaidOtherwise_1 : List In := [(4, 4, 0, 1, 2, []), (5, 6, 0, 1, 0, []), (6, 39, 0, 0, 10, [33685536, 12, 2191]), (9, 37, 11, 0, 4, [117, 1096]), (12, 56, 3, 0, 3, []), (15, 6, 0, 1, 0, []), (16, 4, 0, 1, 2, []), (17, 75, 5080, 444, 2, [135, 10]), (20, 55, 0, 0, 2, []), (23, 6, 0, 1, 0, []), (24, 39, 12, 0, 10, [134479928, 78, 2203]), (27, 40, 5, 0, 7, [2164523493, 450, 2139]), (30, 4, 0, 1, 2, []), (31, 48, 0, 0, 0, []), (32, 6, 0, 1, 0, []), (33, 72, 13, 0, 10, [134479928, 82, 2204]), (36, 40, 5, 0, 7, [2164523493, 450, 2139]), (39, 4, 0, 1, 2, []), (40, 48, 0, 0, 0, []), (41, 75, 5088, 453, 2, [157, 6]), (44, 55, 1, 0, 2, []), (47, 10, 1, 0, 1, []), (50, 58, 0, 0, 2, [])]
def bX10_countSaidOtherwise_2 : List In := [(50, 10, 1, 0, 2, []), (53, 57, 0, 0, 1001, [])]
def bX10_countSaidOtherwise_3 : List In := [(56, 4, 0, 1, 1, []), (57, 60, 0, 0, 0, [])]
def BX10_countSaidOtherwise : List (List In) := [bX10_countSaidOtherwise_0, bX10_countSaidOtherwise_1, bX10_countSaidOtherwise_2, bX10_countSaidOtherwise_3]
set_option maxRecDepth 100000 in
theorem mkX10_countSaidOtherwise : MkB 166 BX10_countSaidOtherwise := MkB_of (by decide +kernel)
theorem lX10_countSaidOtherwise : (sgD 166).2.2.1 = 3 := rfl
theorem eX10_countSaidOtherwise_0 : BX10_countSaidOtherwise.getD 0 [] = bX10_countSaidOtherwise_0 := rfl
theorem eX10_countSaidOtherwise_1 : BX10_countSaidOtherwise.getD 1 [] = bX10_countSaidOtherwise_1 := rfl
theorem eX10_countSaidOtherwise_2 : BX10_countSaidOtherwise.getD 2 [] = bX10_countSaidOtherwise_2 := rfl
theorem eX10_countSaidOtherwise_3 : BX10_countSaidOtherwise.getD 3 [] = bX10_countSaidOtherwise_3 := rfl
def bX10_isElsewhere_0 : List In := [(0, 6, 0, 1, 0, []), (1, 4, 0, 1, 1, []), (2, 75, 5080, 444, 2, [135, 10]), (5, 55, 0, 0, 3, []), (8, 6, 0, 1, 0, []), (9, 39, 12, 0, 10, [134479928, 78, 2203]), (12, 40, 7, 0, 7, [839123425, 378, 2142]), (15, 4, 0, 1, 1, []), (16, 45, 0, 0, 0, []), (17, 6, 0, 1, 0, []), (18, 72, 13, 0, 10, [134479928, 82, 2204]), (21, 40, 7, 0, 7, [839123425, 378, 2142]), (24, 4, 0, 1, 1, []), (25, 45, 0, 0, 0, []), (26, 56, 0, 0, 1, []), (29, 1, 1, 0, 0, []), (30, 57, 0, 0, 2, [])]
def bX10_isElsewhere_1 : List In := [(33, 1, 0, 0, 0, []), (34, 58, 0, 0, 2, [])]
def bX10_isElsewhere_2 : List In := [(34, 61, 0, 0, 0, [])]
def bX10_isElsewhere_3 : List In := [(35, 6, 0, 1, 0, []), (36, 39, 10, 0, 10, [117702656, 66, 2201]), (39, 4, 0, 1, 1, []), (40, 75, 4017, 225, 2, [74, 0]), (43, 55, 1, 0, 4, []), (46, 6, 0, 1, 0, []), (47, 72, 11, 0, 10, [117702656, 70, 2202]), (50, 4, 0, 1, 1, []), (51, 75, 4017, 225, 2, [74, 0]), (54, 55, 0, 0, 5, []), (57, 58, 0, 0, 4, [])]
def bX10_isElsewhere_4 : List In := [(57, 1, 1, 0, 0, []), (58, 57, 0, 0, 6, [])]
def bX10_isElsewhere_5 : List In := [(61, 1, 0, 0, 0, []), (62, 58, 0, 0, 6, [])]
def bX10_isElsewhere_6 : List In := [(62, 61, 0, 0, 0, [])]
def BX10_isElsewhere : List (List In) := [bX10_isElsewhere_0, bX10_isElsewhere_1, bX10_isElsewhere_2, bX10_isElsewhere_3, bX10_isElsewhere_4, bX10_isElsewhere_5, bX10_isElsewhere_6]
set_option maxRecDepth 100000 in
theorem mkX10_isElsewhere : MkB 168 BX10_isElsewhere := MkB_of (by decide +kernel)
theorem lX10_isElsewhere : (sgD 168).2.2.1 = 2 := rfl
theorem eX10_isElsewhere_0 : BX10_isElsewhere.getD 0 [] = bX10_isElsewhere_0 := rfl
theorem eX10_isElsewhere_1 : BX10_isElsewhere.getD 1 [] = bX10_isElsewhere_1 := rfl
theorem eX10_isElsewhere_2 : BX10_isElsewhere.getD 2 [] = bX10_isElsewhere_2 := rfl
theorem eX10_isElsewhere_3 : BX10_isElsewhere.getD 3 [] = bX10_isElsewhere_3 := rfl
theorem eX10_isElsewhere_4 : BX10_isElsewhere.getD 4 [] = bX10_isElsewhere_4 := rfl
theorem eX10_isElsewhere_5 : BX10_isElsewhere.getD 5 [] = bX10_isElsewhere_5 := rfl
theorem eX10_isElsewhere_6 : BX10_isElsewhere.getD 6 [] = bX10_isElsewhere_6 := rfl
def bX10_make_0 : List In := [(0, 6, 0, 1, 0, []), (1, 39, 0, 0, 10, [33685536, 12, 2191]), (4, 4, 0, 1, 1, []), (5, 4, 0, 1, 2, []), (6, 6, 0, 1, 0, []), (7, 39, 1, 0, 10, [201457715, 16, 2192]), (10, 4, 0, 1, 1, []), (11, 47, 0, 0, 0, []), (12, 75, 3122, 428, 4, [154, 4]), (15, 7, 0, 0, 6, []), (17, 6, 0, 1, 0, []), (18, 39, 0, 0, 10, [33685536, 12, 2191]), (21, 39, 3, 0, 4, [285344225, 155, 1069]), (24, 4, 0, 0, 6, []), (26, 4, 0, 1, 3, []), (27, 50, 0, 0, 0, []), (28, 6, 0, 1, 0, []), (29, 39, 0, 0, 10, [33685536, 12, 2191]), (32, 39, 4, 0, 4, [302121441, 197, 1072]), (35, 4, 0, 0, 6, []), (37, 4, 0, 0, 4, []), (39, 50, 0, 0, 0, []), (40, 6, 0, 1, 0, []), (41, 39, 0, 0, 10, [33685536, 12, 2191]), (44, 39, 5, 0, 4, [318898657, 200, 1075]), (47, 4, 0, 0, 6, []), (49, 4, 0, 0, 5, []), (51, 50, 0, 0, 0, []), (52, 6, 0, 1, 0, []), (53, 39, 1, 0, 10, [201457715, 16, 2192]), (56, 4, 0, 1, 1, []), (57, 36, 0, 0, 0, []), (58, 47, 0, 0, 0, []), (59, 4, 0, 0, 6, []), (61, 67, 3140, 181, 1, [14, 0]), (64, 27, 0, 0, 0, []), (65, 52, 0, 0, 0, []), (66, 4, 0, 0, 6, []), (68, 60, 0, 0, 0, [])]
def BX10_make : List (List In) := [bX10_make_0]
set_option maxRecDepth 100000 in
theorem mkX10_make : MkB 169 BX10_make := MkB_of (by decide +kernel)
theorem lX10_make : (sgD 169).2.2.1 = 7 := rfl
theorem eX10_make_0 : BX10_make.getD 0 [] = bX10_make_0 := rfl
def bX10_countElsewhere_0 : List In := [(0, 1, 0, 0, 0, []), (1, 7, 0, 1, 1, []), (2, 1, 0, 0, 0, []), (3, 7, 0, 1, 2, []), (4, 58, 0, 0, 1001, [])]
def bX10_countElsewhere_1 : List In := [(4, 4, 0, 1, 2, []), (5, 6, 0, 1, 0, []), (6, 39, 0, 0, 10, [33685536, 12, 2191]), (9, 37, 11, 0, 4, [117, 1096]), (12, 56, 3, 0, 3, []), (15, 6, 0, 1, 0, []), (16, 4, 0, 1, 2, []), (17, 75, 5076, 447, 2, [168, 10]), (20, 55, 0, 0, 2, []), (23, 10, 1, 0, 1, []), (26, 58, 0, 0, 2, [])]
def bX10_countElsewhere_2 : List In := [(26, 10, 1, 0, 2, []), (29, 57, 0, 0, 1001, [])]
def bX10_countElsewhere_3 : List In := [(32, 4, 0, 1, 1, []), (33, 60, 0, 0, 0, [])]
def BX10_countElsewhere : List (List In) := [bX10_countElsewhere_0, bX10_countElsewhere_1, bX10_countElsewhere_2, bX10_countElsewhere_3]
set_option maxRecDepth 100000 in
theorem mkX10_countElsewhere : MkB 184 BX10_countElsewhere := MkB_of (by decide +kernel)
theorem lX10_countElsewhere : (sgD 184).2.2.1 = 3 := rfl
theorem eX10_countElsewhere_0 : BX10_countElsewhere.getD 0 [] = bX10_countElsewhere_0 := rfl
theorem eX10_countElsewhere_1 : BX10_countElsewhere.getD 1 [] = bX10_countElsewhere_1 := rfl
theorem eX10_countElsewhere_2 : BX10_countElsewhere.getD 2 [] = bX10_countElsewhere_2 := rfl
theorem eX10_countElsewhere_3 : BX10_countElsewhere.getD 3 [] = bX10_countElsewhere_3 := rfl
def bX10_firstPageElsewhere_0 : List In := [(0, 1, 0, 0, 0, []), (1, 7, 0, 1, 1, []), (2, 58, 0, 0, 1001, [])]
def bX10_firstPageElsewhere_1 : List In := [(2, 4, 0, 1, 1, []), (3, 6, 0, 1, 0, []), (4, 39, 10, 0, 10, [117702656, 66, 2201]), (7, 37, 16, 0, 0, [213, 2048]), (10, 56, 3, 0, 3, []), (13, 6, 0, 1, 0, []), (14, 6, 0, 1, 0, []), (15, 39, 10, 0, 10, [117702656, 66, 2201]), (18, 40, 15, 0, 0, [805568993, 216, 2045]), (21, 4, 0, 1, 1, []), (22, 45, 0, 0, 0, []), (23, 75, 5076, 447, 2, [168, 10]), (26, 55, 0, 0, 2, []), (29, 6, 0, 1, 0, []), (30, 39, 12, 0, 10, [134479928, 78, 2203]), (33, 40, 7, 0, 7, [839123425, 378, 2142]), (36, 6, 0, 1, 0, []), (37, 39, 10, 0, 10, [117702656, 66, 2201]), (40, 40, 15, 0, 0, [805568993, 216, 2045]), (43, 4, 0, 1, 1, []), (44, 45, 0, 0, 0, []), (45, 45, 0, 0, 0, []), (46, 60, 0, 0, 0, [])]
def bX10_firstPageElsewhere_2 : List In := [(47, 10, 1, 0, 1, []), (50, 57, 0, 0, 1001, [])]
def bX10_firstPageElsewhere_3 : List In := [(53, 1, -6, 1, 0, []), (55, 60, 0, 0, 0, [])]
def BX10_firstPageElsewhere : List (List In) := [bX10_firstPageElsewhere_0, bX10_firstPageElsewhere_1, bX10_firstPageElsewhere_2, bX10_firstPageElsewhere_3]
set_option maxRecDepth 100000 in
theorem mkX10_firstPageElsewhere : MkB 185 BX10_firstPageElsewhere := MkB_of (by decide +kernel)
theorem lX10_firstPageElsewhere : (sgD 185).2.2.1 = 2 := rfl
theorem eX10_firstPageElsewhere_0 : BX10_firstPageElsewhere.getD 0 [] = bX10_firstPageElsewhere_0 := rfl
theorem eX10_firstPageElsewhere_1 : BX10_firstPageElsewhere.getD 1 [] = bX10_firstPageElsewhere_1 := rfl
theorem eX10_firstPageElsewhere_2 : BX10_firstPageElsewhere.getD 2 [] = bX10_firstPageElsewhere_2 := rfl
theorem eX10_firstPageElsewhere_3 : BX10_firstPageElsewhere.getD 3 [] = bX10_firstPageElsewhere_3 := rfl
def bX10_makeWords_0 : List In := [(0, 6, 0, 1, 0, []), (1, 4, 0, 1, 1, []), (2, 1, 3, 0, 0, []), (3, 4, 0, 1, 2, []), (4, 6, 0, 1, 3, []), (5, 37, 1, 0, 6, [102, 1048]), (8, 1, -6, 1, 0, []), (10, 75, 3118, 120, 6, [169, 10]), (13, 7, 0, 0, 4, []), (15, 6, 0, 1, 0, []), (16, 39, 0, 0, 10, [33685536, 12, 2191]), (19, 39, 8, 0, 4, [2114060772, 431, 1086]), (22, 4, 0, 0, 4, []), (24, 48, 0, 0, 0, []), (25, 6, 0, 1, 3, []), (26, 79, 3163, 434, 2, [178, 6]), (29, 4, 0, 0, 4, []), (31, 60, 0, 0, 0, [])]
def BX10_makeWords : List (List In) := [bX10_makeWords_0]
set_option maxRecDepth 100000 in
theorem mkX10_makeWords : MkB 186 BX10_makeWords := MkB_of (by decide +kernel)
theorem lX10_makeWords : (sgD 186).2.2.1 = 5 := rfl
theorem eX10_makeWords_0 : BX10_makeWords.getD 0 [] = bX10_makeWords_0 := rfl
def bX10_bookOf_0 : List In := [(0, 6, 0, 1, 0, []), (1, 39, 10, 0, 10, [117702656, 66, 2201]), (4, 6, 0, 1, 0, []), (5, 4, 0, 1, 1, []), (6, 77, 3025, 267, 2, [23, 10]), (9, 6, 0, 1, 0, []), (10, 37, 5, 0, 10, [165, 2196]), (13, 79, 3029, 168, 3, [183, 0]), (16, 6, 0, 1, 0, []), (17, 39, 10, 0, 10, [117702656, 66, 2201]), (20, 63, 0, 0, 0, [])]
def BX10_bookOf : List (List In) := [bX10_bookOf_0]
set_option maxRecDepth 100000 in
theorem mkX10_bookOf : MkB 202 BX10_bookOf := MkB_of (by decide +kernel)
theorem lX10_bookOf : (sgD 202).2.2.1 = 2 := rfl
theorem eX10_bookOf_0 : BX10_bookOf.getD 0 [] = bX10_bookOf_0 := rfl
def bX10_makeAsIn_0 : List In := [(0, 4, 0, 1, 3, []), (1, 59, 2, 4, 4, [1, 2, 3])]
def bX10_makeAsIn_1 : List In := [(28, 6, 0, 1, 0, []), (29, 4, 0, 1, 2, []), (30, 1, 2, 0, 0, []), (31, 4, 0, 0, 4, []), (33, 6, 0, 1, 1, []), (34, 40, 7, 0, 0, [671351265, 228, 2028]), (37, 4, 0, 0, 4, []), (39, 45, 0, 0, 0, []), (40, 6, 0, 1, 1, []), (41, 40, 8, 0, 0, [688128481, 231, 2030]), (44, 4, 0, 0, 4, []), (46, 45, 0, 0, 0, []), (47, 75, 3118, 120, 6, [169, 10]), (50, 60, 0, 0, 0, [])]
def bX10_makeAsIn_2 : List In := [(51, 6, 0, 1, 0, []), (52, 4, 0, 1, 2, []), (53, 4, 0, 0, 4, []), (55, 6, 0, 1, 1, []), (56, 4, 0, 0, 4, []), (58, 78, 3207, 238, 2, [12, 0]), (61, 75, 3159, 141, 4, [186, 10]), (64, 60, 0, 0, 0, [])]
def bX10_makeAsIn_3 : List In := [(65, 6, 0, 1, 0, []), (66, 4, 0, 1, 2, []), (67, 1, 4, 0, 0, []), (68, 4, 0, 0, 4, []), (70, 6, 0, 1, 1, []), (71, 40, 13, 0, 0, [772014561, 242, 2039]), (74, 4, 0, 0, 4, []), (76, 45, 0, 0, 0, []), (77, 1, -6, 1, 0, []), (79, 75, 3118, 120, 6, [169, 10]), (82, 60, 0, 0, 0, [])]
def bX10_makeAsIn_4 : List In := [(83, 6, 0, 1, 0, []), (84, 4, 0, 1, 2, []), (85, 1, 5, 0, 0, []), (86, 4, 0, 0, 4, []), (88, 6, 0, 1, 1, []), (89, 40, 14, 0, 0, [788791777, 245, 2042]), (92, 4, 0, 0, 4, []), (94, 45, 0, 0, 0, []), (95, 1, -6, 1, 0, []), (97, 75, 3118, 120, 6, [169, 10]), (100, 60, 0, 0, 0, [])]
def BX10_makeAsIn : List (List In) := [bX10_makeAsIn_0, bX10_makeAsIn_1, bX10_makeAsIn_2, bX10_makeAsIn_3, bX10_makeAsIn_4]
set_option maxRecDepth 100000 in
theorem mkX10_makeAsIn : MkB 203 BX10_makeAsIn := MkB_of (by decide +kernel)
theorem lX10_makeAsIn : (sgD 203).2.2.1 = 5 := rfl
theorem eX10_makeAsIn_0 : BX10_makeAsIn.getD 0 [] = bX10_makeAsIn_0 := rfl
theorem eX10_makeAsIn_1 : BX10_makeAsIn.getD 1 [] = bX10_makeAsIn_1 := rfl
theorem eX10_makeAsIn_2 : BX10_makeAsIn.getD 2 [] = bX10_makeAsIn_2 := rfl
theorem eX10_makeAsIn_3 : BX10_makeAsIn.getD 3 [] = bX10_makeAsIn_3 := rfl
theorem eX10_makeAsIn_4 : BX10_makeAsIn.getD 4 [] = bX10_makeAsIn_4 := rfl
def bX10_at_0 : List In := [(0, 6, 0, 1, 0, []), (1, 4, 0, 1, 1, []), (2, 75, 3233, 203, 2, [83, 10]), (5, 55, 0, 0, 1, []), (8, 6, 0, 1, 0, []), (9, 4, 0, 1, 2, []), (10, 75, 4012, 219, 2, [82, 10]), (13, 55, 1, 0, 2, []), (16, 58, 0, 0, 1, [])]
def bX10_at_1 : List In := [(16, 1, -101, 1, 0, []), (18, 60, 0, 0, 0, [])]
def bX10_at_2 : List In := [(19, 6, 0, 1, 0, []), (20, 4, 0, 1, 1, []), (21, 78, 3021, 107, 2, [202, 10]), (24, 9, 0, 0, 5, []), (26, 6, 0, 0, 5, []), (28, 4, 0, 1, 2, []), (29, 78, 3207, 238, 2, [12, 0]), (32, 9, 0, 0, 6, []), (34, 4, 0, 1, 3, []), (35, 55, 2, 0, 3, []), (38, 4, 0, 1, 3, []), (39, 6, 0, 0, 6, []), (41, 37, 1, 0, 6, [102, 1048]), (44, 56, 2, 0, 4, []), (47, 58, 0, 0, 3, [])]
def bX10_at_3 : List In := [(47, 1, -101, 1, 0, []), (49, 60, 0, 0, 0, [])]
def bX10_at_4 : List In := [(50, 4, 0, 0, 4, []), (52, 55, 0, 0, 5, []), (55, 4, 0, 0, 4, []), (57, 1, 1, 0, 0, []), (58, 56, 0, 0, 5, []), (61, 1, -102, 1, 0, []), (63, 60, 0, 0, 0, [])]
def bX10_at_5 : List In := [(64, 4, 0, 0, 4, []), (66, 55, 1, 0, 6, []), (69, 6, 0, 0, 6, []), (71, 41, 0, 0, 6, [0, 251, 1045]), (74, 4, 0, 1, 3, []), (75, 45, 0, 0, 0, []), (76, 57, 0, 0, 7, [])]
def bX10_at_6 : List In := [(79, 6, 0, 0, 5, []), (81, 40, 12, 0, 0, [755240705, 254, 2036]), (84, 4, 0, 1, 2, []), (85, 1, 8, 1, 0, []), (87, 13, 0, 0, 0, []), (88, 4, 0, 1, 3, []), (89, 11, 0, 0, 0, []), (90, 45, 0, 0, 0, []), (91, 58, 0, 0, 7, [])]
def bX10_at_7 : List In := [(91, 60, 0, 0, 0, [])]
def BX10_at : List (List In) := [bX10_at_0, bX10_at_1, bX10_at_2, bX10_at_3, bX10_at_4, bX10_at_5, bX10_at_6, bX10_at_7]
set_option maxRecDepth 100000 in
theorem mkX10_at : MkB 219 BX10_at := MkB_of (by decide +kernel)
theorem lX10_at : (sgD 219).2.2.1 = 7 := rfl
theorem eX10_at_0 : BX10_at.getD 0 [] = bX10_at_0 := rfl
theorem eX10_at_1 : BX10_at.getD 1 [] = bX10_at_1 := rfl
theorem eX10_at_2 : BX10_at.getD 2 [] = bX10_at_2 := rfl
theorem eX10_at_3 : BX10_at.getD 3 [] = bX10_at_3 := rfl
theorem eX10_at_4 : BX10_at.getD 4 [] = bX10_at_4 := rfl
theorem eX10_at_5 : BX10_at.getD 5 [] = bX10_at_5 := rfl
theorem eX10_at_6 : BX10_at.getD 6 [] = bX10_at_6 := rfl
theorem eX10_at_7 : BX10_at.getD 7 [] = bX10_at_7 := rfl
def bX10_back_0 : List In := [(0, 4, 0, 1, 1, []), (1, 65, 2238, 88, 1, [19, 0]), (4, 55, 0, 0, 1, []), (7, 6, 0, 1, 0, []), (8, 39, 1, 0, 10, [201457715, 16, 2192]), (11, 4, 0, 1, 1, []), (12, 47, 0, 0, 0, []), (13, 4, 0, 1, 2, []), (14, 65, 3189, 148, 2, [16, 0]), (17, 55, 1, 0, 2, []), (20, 58, 0, 0, 1, [])]
def bX10_back_1 : List In := [(20, 1, -1, 0, 0, []), (21, 60, 0, 0, 0, [])]
def bX10_back_2 : List In := [(22, 6, 0, 1, 0, []), (23, 39, 0, 0, 10, [33685536, 12, 2191]), (26, 75, 3017, 106, 1, [55, 4]), (29, 55, 0, 0, 3, []), (32, 1, -4, 1, 0, []), (34, 60, 0, 0, 0, [])]
def bX10_back_3 : List In := [(35, 6, 0, 1, 0, []), (36, 4, 0, 1, 1, []), (37, 78, 3021, 107, 2, [202, 10]), (40, 4, 0, 1, 2, []), (41, 75, 3190, 152, 2, [126, 0]), (44, 55, 1, 0, 4, []), (47, 1, -5, 1, 0, []), (49, 60, 0, 0, 0, [])]
def bX10_back_4 : List In := [(50, 6, 0, 1, 0, []), (51, 39, 0, 0, 10, [33685536, 12, 2191]), (54, 39, 3, 0, 4, [285344225, 155, 1069]), (57, 4, 0, 1, 2, []), (58, 45, 0, 0, 0, []), (59, 7, 0, 1, 3, []), (60, 6, 0, 1, 0, []), (61, 39, 0, 0, 10, [33685536, 12, 2191]), (64, 39, 0, 0, 4, [235012577, 158, 1062]), (67, 4, 0, 1, 2, []), (68, 45, 0, 0, 0, []), (69, 7, 0, 0, 4, []), (71, 4, 0, 0, 4, []), (73, 55, 1, 0, 5, []), (76, 6, 0, 1, 0, []), (77, 4, 0, 1, 1, []), (78, 1, 1, 0, 0, []), (79, 4, 0, 1, 3, []), (80, 1, -6, 1, 0, []), (82, 1, -6, 1, 0, []), (84, 75, 3118, 120, 6, [169, 10]), (87, 60, 0, 0, 0, [])]
def bX10_back_5 : List In := [(88, 4, 0, 0, 4, []), (90, 1, 1, 0, 0, []), (91, 56, 1, 0, 6, []), (94, 6, 0, 1, 0, []), (95, 4, 0, 1, 1, []), (96, 1, 6, 1, 0, []), (98, 4, 0, 1, 3, []), (99, 1, -6, 1, 0, []), (101, 1, -6, 1, 0, []), (103, 75, 3118, 120, 6, [169, 10]), (106, 60, 0, 0, 0, [])]
def bX10_back_6 : List In := [(107, 6, 0, 1, 0, []), (108, 72, 11, 0, 10, [117702656, 70, 2202]), (111, 6, 0, 1, 0, []), (112, 39, 0, 0, 10, [33685536, 12, 2191]), (115, 4, 0, 1, 2, []), (116, 6, 0, 1, 0, []), (117, 39, 1, 0, 10, [201457715, 16, 2192]), (120, 4, 0, 1, 1, []), (121, 47, 0, 0, 0, []), (122, 77, 3198, 161, 3, [115, 4]), (125, 6, 0, 1, 0, []), (126, 37, 5, 0, 10, [165, 2196]), (129, 79, 3029, 168, 3, [183, 0]), (132, 6, 0, 1, 0, []), (133, 6, 0, 1, 0, []), (134, 72, 11, 0, 10, [117702656, 70, 2202]), (137, 4, 0, 1, 1, []), (138, 4, 0, 0, 4, []), (140, 4, 0, 1, 3, []), (141, 75, 3203, 172, 5, [203, 10]), (144, 60, 0, 0, 0, [])]
def BX10_back : List (List In) := [bX10_back_0, bX10_back_1, bX10_back_2, bX10_back_3, bX10_back_4, bX10_back_5, bX10_back_6]
set_option maxRecDepth 100000 in
theorem mkX10_back : MkB 220 BX10_back := MkB_of (by decide +kernel)
theorem lX10_back : (sgD 220).2.2.1 = 5 := rfl
theorem eX10_back_0 : BX10_back.getD 0 [] = bX10_back_0 := rfl
theorem eX10_back_1 : BX10_back.getD 1 [] = bX10_back_1 := rfl
theorem eX10_back_2 : BX10_back.getD 2 [] = bX10_back_2 := rfl
theorem eX10_back_3 : BX10_back.getD 3 [] = bX10_back_3 := rfl
theorem eX10_back_4 : BX10_back.getD 4 [] = bX10_back_4 := rfl
theorem eX10_back_5 : BX10_back.getD 5 [] = bX10_back_5 := rfl
theorem eX10_back_6 : BX10_back.getD 6 [] = bX10_back_6 := rfl
def bX10_came_0 : List In := [(0, 6, 0, 1, 0, []), (1, 4, 0, 1, 1, []), (2, 75, 3233, 203, 2, [83, 10]), (5, 55, 0, 0, 1, []), (8, 6, 0, 1, 0, []), (9, 4, 0, 1, 2, []), (10, 75, 3225, 188, 2, [17, 10]), (13, 55, 1, 0, 2, []), (16, 58, 0, 0, 1, [])]
def bX10_came_1 : List In := [(16, 1, -1, 0, 0, []), (17, 60, 0, 0, 0, [])]
def bX10_came_2 : List In := [(18, 6, 0, 1, 0, []), (19, 4, 0, 1, 1, []), (20, 78, 3021, 107, 2, [202, 10]), (23, 40, 6, 0, 0, [654574049, 206, 2026]), (26, 4, 0, 1, 2, []), (27, 45, 0, 0, 0, []), (28, 60, 0, 0, 0, [])]
def BX10_came : List (List In) := [bX10_came_0, bX10_came_1, bX10_came_2]
set_option maxRecDepth 100000 in
theorem mkX10_came : MkB 221 BX10_came := MkB_of (by decide +kernel)
theorem lX10_came : (sgD 221).2.2.1 = 3 := rfl
theorem eX10_came_0 : BX10_came.getD 0 [] = bX10_came_0 := rfl
theorem eX10_came_1 : BX10_came.getD 1 [] = bX10_came_1 := rfl
theorem eX10_came_2 : BX10_came.getD 2 [] = bX10_came_2 := rfl
def bX10_digest_0 : List In := [(0, 6, 0, 1, 0, []), (1, 4, 0, 1, 1, []), (2, 75, 3233, 203, 2, [83, 10]), (5, 55, 1, 0, 1, []), (8, 2, -101, 1, 0, [261, 4045]), (11, 62, 0, 0, 0, [])]
def bX10_digest_1 : List In := [(12, 6, 0, 1, 0, []), (13, 4, 0, 1, 1, []), (14, 78, 3021, 107, 2, [202, 10]), (17, 9, 0, 1, 2, []), (18, 2, 251, 1, 0, [263, 4046]), (21, 8, 0, 1, 3, []), (22, 1, 0, 0, 0, []), (23, 7, 0, 0, 5, []), (25, 58, 0, 0, 1002, [])]
def bX10_digest_2 : List In := [(25, 4, 0, 0, 5, []), (27, 6, 0, 1, 2, []), (28, 37, 16, 0, 0, [213, 2048]), (31, 56, 3, 0, 5, []), (34, 6, 0, 1, 2, []), (35, 40, 15, 0, 0, [805568993, 216, 2045]), (38, 4, 0, 0, 5, []), (40, 45, 0, 0, 0, []), (41, 7, 0, 0, 6, []), (43, 2, 31, 1, 0, [265, 4047]), (46, 5, 0, 1, 3, []), (47, 25, 0, 0, 0, []), (48, 4, 0, 0, 6, []), (50, 32, 0, 0, 0, []), (51, 23, 0, 0, 0, []), (52, 8, 0, 1, 3, []), (53, 2, 31, 1, 0, [265, 4047]), (56, 5, 0, 1, 3, []), (57, 25, 0, 0, 0, []), (58, 6, 0, 1, 2, []), (59, 4, 0, 0, 6, []), (61, 75, 4025, 248, 2, [9, 0]), (64, 32, 0, 0, 0, []), (65, 23, 0, 0, 0, []), (66, 8, 0, 1, 3, []), (67, 6, 0, 1, 2, []), (68, 4, 0, 0, 6, []), (70, 78, 3207, 238, 2, [12, 0]), (73, 9, 0, 0, 7, []), (75, 1, 0, 0, 0, []), (76, 7, 0, 0, 8, []), (78, 58, 0, 0, 1003, [])]
def bX10_digest_3 : List In := [(78, 4, 0, 0, 8, []), (80, 6, 0, 0, 7, []), (82, 37, 1, 0, 6, [102, 1048]), (85, 56, 3, 0, 4, []), (88, 2, 31, 1, 0, [265, 4047]), (91, 5, 0, 1, 3, []), (92, 25, 0, 0, 0, []), (93, 6, 0, 0, 7, []), (95, 41, 0, 0, 6, [0, 251, 1045]), (98, 4, 0, 0, 8, []), (100, 45, 0, 0, 0, []), (101, 32, 0, 0, 0, []), (102, 23, 0, 0, 0, []), (103, 8, 0, 1, 3, []), (104, 10, 1, 0, 8, []), (107, 57, 0, 0, 1003, [])]
def bX10_digest_4 : List In := [(110, 10, 1, 0, 5, []), (113, 57, 0, 0, 1002, [])]
def bX10_digest_5 : List In := [(116, 5, 0, 1, 3, []), (117, 62, 0, 0, 0, [])]
def BX10_digest : List (List In) := [bX10_digest_0, bX10_digest_1, bX10_digest_2, bX10_digest_3, bX10_digest_4, bX10_digest_5]
set_option maxRecDepth 100000 in
theorem mkX10_digest : MkB 222 BX10_digest := MkB_of (by decide +kernel)
theorem lX10_digest : (sgD 222).2.2.1 = 9 := rfl
theorem eX10_digest_0 : BX10_digest.getD 0 [] = bX10_digest_0 := rfl
theorem eX10_digest_1 : BX10_digest.getD 1 [] = bX10_digest_1 := rfl
theorem eX10_digest_2 : BX10_digest.getD 2 [] = bX10_digest_2 := rfl
theorem eX10_digest_3 : BX10_digest.getD 3 [] = bX10_digest_3 := rfl
theorem eX10_digest_4 : BX10_digest.getD 4 [] = bX10_digest_4 := rfl
theorem eX10_digest_5 : BX10_digest.getD 5 [] = bX10_digest_5 := rfl
def bX10_lead_0 : List In := [(0, 4, 0, 1, 1, []), (1, 65, 4120, 300, 1, [21, 0]), (4, 55, 0, 0, 1, []), (7, 6, 0, 1, 0, []), (8, 4, 0, 1, 2, []), (9, 75, 3233, 203, 2, [83, 10]), (12, 55, 0, 0, 1, []), (15, 4, 0, 0, 4, []), (17, 65, 2238, 88, 1, [19, 0]), (20, 55, 1, 0, 2, []), (23, 58, 0, 0, 1, [])]
def bX10_lead_1 : List In := [(23, 1, -1, 0, 0, []), (24, 60, 0, 0, 0, [])]
def bX10_lead_2 : List In := [(25, 6, 0, 1, 0, []), (26, 39, 8, 0, 10, [84017224, 50, 2199]), (29, 37, 6, 0, 9, [303, 1197]), (32, 1, 24, 1, 0, []), (34, 56, 2, 0, 3, []), (37, 1, -4, 1, 0, []), (39, 60, 0, 0, 0, [])]
def bX10_lead_3 : List In := [(40, 6, 0, 1, 0, []), (41, 4, 0, 1, 2, []), (42, 78, 3021, 107, 2, [202, 10]), (45, 9, 0, 0, 5, []), (47, 6, 0, 0, 5, []), (49, 4, 0, 1, 3, []), (50, 75, 3155, 138, 2, [128, 0]), (53, 55, 0, 0, 4, []), (56, 6, 0, 0, 5, []), (58, 4, 0, 1, 3, []), (59, 78, 3207, 238, 2, [12, 0]), (62, 37, 1, 0, 6, [102, 1048]), (65, 55, 0, 0, 4, []), (68, 6, 0, 1, 0, []), (69, 39, 2, 0, 10, [2097283124, 22, 2193]), (72, 4, 0, 0, 4, []), (74, 48, 0, 0, 0, []), (75, 37, 1, 0, 6, [102, 1048]), (78, 55, 1, 0, 5, []), (81, 58, 0, 0, 4, [])]
def bX10_lead_4 : List In := [(81, 1, -5, 1, 0, []), (83, 60, 0, 0, 0, [])]
def bX10_lead_5 : List In := [(84, 6, 0, 1, 0, []), (85, 39, 8, 0, 10, [84017224, 50, 2199]), (88, 4, 0, 1, 1, []), (89, 4, 0, 1, 3, []), (90, 6, 0, 0, 5, []), (92, 40, 11, 0, 0, [738460129, 306, 2034]), (95, 4, 0, 1, 3, []), (96, 45, 0, 0, 0, []), (97, 6, 0, 1, 0, []), (98, 39, 2, 0, 10, [2097283124, 22, 2193]), (101, 4, 0, 0, 4, []), (103, 48, 0, 0, 0, []), (104, 79, 4123, 309, 5, [201, 9]), (107, 6, 0, 1, 0, []), (108, 39, 2, 0, 10, [2097283124, 22, 2193]), (111, 4, 0, 0, 4, []), (113, 48, 0, 0, 0, []), (114, 79, 3176, 145, 1, [60, 6]), (117, 6, 0, 1, 0, []), (118, 39, 8, 0, 10, [84017224, 50, 2199]), (121, 37, 6, 0, 9, [303, 1197]), (124, 1, 1, 0, 0, []), (125, 12, 0, 0, 0, []), (126, 60, 0, 0, 0, [])]
def BX10_lead : List (List In) := [bX10_lead_0, bX10_lead_1, bX10_lead_2, bX10_lead_3, bX10_lead_4, bX10_lead_5]
set_option maxRecDepth 100000 in
theorem mkX10_lead : MkB 223 BX10_lead := MkB_of (by decide +kernel)
theorem lX10_lead : (sgD 223).2.2.1 = 6 := rfl
theorem eX10_lead_0 : BX10_lead.getD 0 [] = bX10_lead_0 := rfl
theorem eX10_lead_1 : BX10_lead.getD 1 [] = bX10_lead_1 := rfl
theorem eX10_lead_2 : BX10_lead.getD 2 [] = bX10_lead_2 := rfl
theorem eX10_lead_3 : BX10_lead.getD 3 [] = bX10_lead_3 := rfl
theorem eX10_lead_4 : BX10_lead.getD 4 [] = bX10_lead_4 := rfl
theorem eX10_lead_5 : BX10_lead.getD 5 [] = bX10_lead_5 := rfl
def bX10_move_0 : List In := [(0, 4, 0, 1, 1, []), (1, 65, 2238, 88, 1, [19, 0]), (4, 55, 1, 0, 1, []), (7, 1, -1, 0, 0, []), (8, 60, 0, 0, 0, [])]
def bX10_move_1 : List In := [(9, 6, 0, 1, 0, []), (10, 39, 0, 0, 10, [33685536, 12, 2191]), (13, 75, 3017, 106, 1, [55, 4]), (16, 55, 0, 0, 2, []), (19, 1, -4, 1, 0, []), (21, 60, 0, 0, 0, [])]
def bX10_move_2 : List In := [(22, 6, 0, 1, 0, []), (23, 4, 0, 1, 1, []), (24, 78, 3021, 107, 2, [202, 10]), (27, 9, 0, 0, 5, []), (29, 6, 0, 0, 5, []), (31, 4, 0, 1, 2, []), (32, 75, 3145, 131, 2, [76, 0]), (35, 55, 0, 0, 3, []), (38, 6, 0, 0, 5, []), (40, 4, 0, 1, 3, []), (41, 75, 3110, 111, 2, [127, 0]), (44, 55, 0, 0, 3, []), (47, 6, 0, 0, 5, []), (49, 4, 0, 1, 3, []), (50, 4, 0, 1, 2, []), (51, 75, 3150, 134, 3, [6, 0]), (54, 55, 0, 0, 4, []), (57, 58, 0, 0, 3, [])]
def bX10_move_3 : List In := [(57, 1, -5, 1, 0, []), (59, 60, 0, 0, 0, [])]
def bX10_move_4 : List In := [(60, 4, 0, 0, 4, []), (62, 4, 0, 1, 2, []), (63, 56, 0, 0, 5, []), (66, 6, 0, 0, 5, []), (68, 4, 0, 0, 4, []), (70, 75, 3114, 114, 2, [129, 0]), (73, 55, 1, 0, 6, []), (76, 58, 0, 0, 5, [])]
def bX10_move_5 : List In := [(76, 1, -5, 1, 0, []), (78, 60, 0, 0, 0, [])]
def bX10_move_6 : List In := [(79, 6, 0, 1, 0, []), (80, 4, 0, 1, 1, []), (81, 1, 2, 0, 0, []), (82, 4, 0, 1, 2, []), (83, 4, 0, 1, 3, []), (84, 4, 0, 0, 4, []), (86, 75, 3118, 120, 6, [169, 10]), (89, 60, 0, 0, 0, [])]
def BX10_move : List (List In) := [bX10_move_0, bX10_move_1, bX10_move_2, bX10_move_3, bX10_move_4, bX10_move_5, bX10_move_6]
set_option maxRecDepth 100000 in
theorem mkX10_move : MkB 224 BX10_move := MkB_of (by decide +kernel)
theorem lX10_move : (sgD 224).2.2.1 = 6 := rfl
theorem eX10_move_0 : BX10_move.getD 0 [] = bX10_move_0 := rfl
theorem eX10_move_1 : BX10_move.getD 1 [] = bX10_move_1 := rfl
theorem eX10_move_2 : BX10_move.getD 2 [] = bX10_move_2 := rfl
theorem eX10_move_3 : BX10_move.getD 3 [] = bX10_move_3 := rfl
theorem eX10_move_4 : BX10_move.getD 4 [] = bX10_move_4 := rfl
theorem eX10_move_5 : BX10_move.getD 5 [] = bX10_move_5 := rfl
theorem eX10_move_6 : BX10_move.getD 6 [] = bX10_move_6 := rfl
def bX10_note_0 : List In := [(0, 4, 0, 1, 1, []), (1, 65, 2238, 88, 1, [19, 0]), (4, 55, 1, 0, 1, []), (7, 1, -1, 0, 0, []), (8, 60, 0, 0, 0, [])]
def bX10_note_1 : List In := [(9, 4, 0, 1, 3, []), (10, 55, 2, 0, 2, []), (13, 4, 0, 1, 3, []), (14, 1, 3, 0, 0, []), (15, 56, 5, 0, 3, []), (18, 58, 0, 0, 2, [])]
def bX10_note_2 : List In := [(18, 1, -2, 1, 0, []), (20, 60, 0, 0, 0, [])]
def bX10_note_3 : List In := [(21, 6, 0, 1, 0, []), (22, 39, 0, 0, 10, [33685536, 12, 2191]), (25, 75, 3017, 106, 1, [55, 4]), (28, 55, 0, 0, 4, []), (31, 1, -4, 1, 0, []), (33, 60, 0, 0, 0, [])]
def bX10_note_4 : List In := [(34, 6, 0, 1, 0, []), (35, 4, 0, 1, 1, []), (36, 78, 3021, 107, 2, [202, 10]), (39, 4, 0, 1, 2, []), (40, 75, 3155, 138, 2, [128, 0]), (43, 55, 1, 0, 5, []), (46, 1, -5, 1, 0, []), (48, 60, 0, 0, 0, [])]
def bX10_note_5 : List In := [(49, 6, 0, 1, 0, []), (50, 4, 0, 1, 1, []), (51, 1, 4, 0, 0, []), (52, 4, 0, 1, 2, []), (53, 4, 0, 1, 3, []), (54, 1, -6, 1, 0, []), (56, 75, 3118, 120, 6, [169, 10]), (59, 60, 0, 0, 0, [])]
def BX10_note : List (List In) := [bX10_note_0, bX10_note_1, bX10_note_2, bX10_note_3, bX10_note_4, bX10_note_5]
set_option maxRecDepth 100000 in
theorem mkX10_note : MkB 225 BX10_note := MkB_of (by decide +kernel)
theorem lX10_note : (sgD 225).2.2.1 = 4 := rfl
theorem eX10_note_0 : BX10_note.getD 0 [] = bX10_note_0 := rfl
theorem eX10_note_1 : BX10_note.getD 1 [] = bX10_note_1 := rfl
theorem eX10_note_2 : BX10_note.getD 2 [] = bX10_note_2 := rfl
theorem eX10_note_3 : BX10_note.getD 3 [] = bX10_note_3 := rfl
theorem eX10_note_4 : BX10_note.getD 4 [] = bX10_note_4 := rfl
theorem eX10_note_5 : BX10_note.getD 5 [] = bX10_note_5 := rfl
def bX10_offer_0 : List In := [(0, 4, 0, 1, 1, []), (1, 65, 4120, 300, 1, [21, 0]), (4, 55, 0, 0, 1, []), (7, 6, 0, 1, 0, []), (8, 4, 0, 1, 2, []), (9, 75, 3233, 203, 2, [83, 10]), (12, 55, 1, 0, 2, []), (15, 58, 0, 0, 1, [])]
def bX10_offer_1 : List In := [(15, 1, -1, 0, 0, []), (16, 60, 0, 0, 0, [])]
def bX10_offer_2 : List In := [(17, 6, 0, 1, 0, []), (18, 4, 0, 1, 2, []), (19, 78, 3021, 107, 2, [202, 10]), (22, 9, 0, 0, 5, []), (24, 6, 0, 0, 5, []), (26, 4, 0, 1, 3, []), (27, 75, 3155, 138, 2, [128, 0]), (30, 55, 1, 0, 3, []), (33, 1, -1, 0, 0, []), (34, 60, 0, 0, 0, [])]
def bX10_offer_3 : List In := [(35, 4, 0, 0, 4, []), (37, 55, 2, 0, 4, []), (40, 4, 0, 0, 4, []), (42, 1, 3, 0, 0, []), (43, 56, 5, 0, 5, []), (46, 58, 0, 0, 4, [])]
def bX10_offer_4 : List In := [(46, 1, -2, 1, 0, []), (48, 60, 0, 0, 0, [])]
def bX10_offer_5 : List In := [(49, 6, 0, 0, 5, []), (51, 4, 0, 1, 3, []), (52, 78, 3207, 238, 2, [12, 0]), (55, 9, 0, 0, 6, []), (57, 6, 0, 1, 0, []), (58, 39, 8, 0, 10, [84017224, 50, 2199]), (61, 4, 0, 1, 1, []), (62, 6, 0, 0, 6, []), (64, 75, 4151, 317, 3, [162, 9]), (67, 7, 0, 0, 7, []), (69, 4, 0, 0, 7, []), (71, 55, 3, 0, 6, []), (74, 1, -6, 1, 0, []), (76, 60, 0, 0, 0, [])]
def bX10_offer_6 : List In := [(77, 4, 0, 0, 4, []), (79, 59, 0, 2, 10, [7, 8, 9])]
def bX10_offer_7 : List In := [(104, 4, 0, 0, 7, []), (106, 60, 0, 0, 0, [])]
def bX10_offer_8 : List In := [(107, 6, 0, 1, 0, []), (108, 39, 6, 0, 10, [50462744, 32, 2197]), (111, 6, 0, 1, 0, []), (112, 39, 8, 0, 10, [84017224, 50, 2199]), (115, 4, 0, 0, 7, []), (117, 78, 4160, 321, 2, [71, 9]), (120, 6, 0, 0, 6, []), (122, 75, 4161, 324, 3, [113, 3]), (125, 60, 0, 0, 0, [])]
def bX10_offer_9 : List In := [(126, 6, 0, 1, 0, []), (127, 39, 8, 0, 10, [84017224, 50, 2199]), (130, 39, 3, 0, 9, [503447745, 328, 1191]), (133, 4, 0, 0, 7, []), (135, 45, 0, 0, 0, []), (136, 60, 0, 0, 0, [])]
def bX10_offer_10 : List In := [(137, 6, 0, 1, 0, []), (138, 39, 8, 0, 10, [84017224, 50, 2199]), (141, 39, 5, 0, 9, [2130837700, 329, 1195]), (144, 4, 0, 0, 7, []), (146, 48, 0, 0, 0, []), (147, 37, 1, 0, 6, [102, 1048]), (150, 60, 0, 0, 0, [])]
def BX10_offer : List (List In) := [bX10_offer_0, bX10_offer_1, bX10_offer_2, bX10_offer_3, bX10_offer_4, bX10_offer_5, bX10_offer_6, bX10_offer_7, bX10_offer_8, bX10_offer_9, bX10_offer_10]
set_option maxRecDepth 100000 in
theorem mkX10_offer : MkB 226 BX10_offer := MkB_of (by decide +kernel)
theorem lX10_offer : (sgD 226).2.2.1 = 8 := rfl
theorem eX10_offer_0 : BX10_offer.getD 0 [] = bX10_offer_0 := rfl
theorem eX10_offer_1 : BX10_offer.getD 1 [] = bX10_offer_1 := rfl
theorem eX10_offer_2 : BX10_offer.getD 2 [] = bX10_offer_2 := rfl
theorem eX10_offer_3 : BX10_offer.getD 3 [] = bX10_offer_3 := rfl
theorem eX10_offer_4 : BX10_offer.getD 4 [] = bX10_offer_4 := rfl
theorem eX10_offer_5 : BX10_offer.getD 5 [] = bX10_offer_5 := rfl
theorem eX10_offer_6 : BX10_offer.getD 6 [] = bX10_offer_6 := rfl
theorem eX10_offer_7 : BX10_offer.getD 7 [] = bX10_offer_7 := rfl
theorem eX10_offer_8 : BX10_offer.getD 8 [] = bX10_offer_8 := rfl
theorem eX10_offer_9 : BX10_offer.getD 9 [] = bX10_offer_9 := rfl
theorem eX10_offer_10 : BX10_offer.getD 10 [] = bX10_offer_10 := rfl
def bX10_open_0 : List In := [(0, 6, 0, 1, 0, []), (1, 4, 0, 1, 1, []), (2, 75, 3233, 203, 2, [83, 10]), (5, 55, 1, 0, 1, []), (8, 1, -1, 0, 0, []), (9, 60, 0, 0, 0, [])]
def bX10_open_1 : List In := [(10, 6, 0, 1, 0, []), (11, 39, 7, 0, 10, [67239952, 41, 2198]), (14, 6, 0, 1, 0, []), (15, 4, 0, 1, 1, []), (16, 78, 3021, 107, 2, [202, 10]), (19, 75, 4093, 292, 2, [217, 2]), (22, 60, 0, 0, 0, [])]
def BX10_open : List (List In) := [bX10_open_0, bX10_open_1]
set_option maxRecDepth 100000 in
theorem mkX10_open : MkB 227 BX10_open := MkB_of (by decide +kernel)
theorem lX10_open : (sgD 227).2.2.1 = 2 := rfl
theorem eX10_open_0 : BX10_open.getD 0 [] = bX10_open_0 := rfl
theorem eX10_open_1 : BX10_open.getD 1 [] = bX10_open_1 := rfl
def bX10_piece_0 : List In := [(0, 6, 0, 1, 0, []), (1, 4, 0, 1, 1, []), (2, 75, 3233, 203, 2, [83, 10]), (5, 55, 0, 0, 1, []), (8, 6, 0, 1, 0, []), (9, 4, 0, 1, 2, []), (10, 75, 4012, 219, 2, [82, 10]), (13, 55, 1, 0, 2, []), (16, 58, 0, 0, 1, [])]
def bX10_piece_1 : List In := [(16, 1, -101, 1, 0, []), (18, 60, 0, 0, 0, [])]
def bX10_piece_2 : List In := [(19, 4, 0, 1, 3, []), (20, 55, 2, 0, 3, []), (23, 4, 0, 1, 3, []), (24, 1, 9, 1, 0, []), (26, 56, 5, 0, 4, []), (29, 58, 0, 0, 3, [])]
def bX10_piece_3 : List In := [(29, 1, -102, 1, 0, []), (31, 60, 0, 0, 0, [])]
def bX10_piece_4 : List In := [(32, 6, 0, 1, 0, []), (33, 4, 0, 1, 1, []), (34, 78, 3021, 107, 2, [202, 10]), (37, 9, 0, 0, 4, []), (39, 4, 0, 1, 3, []), (40, 55, 1, 0, 5, []), (43, 6, 0, 0, 4, []), (45, 4, 0, 1, 2, []), (46, 75, 3145, 131, 2, [76, 0]), (49, 65, 4001, 209, 1, [13, 0]), (52, 60, 0, 0, 0, [])]
def bX10_piece_5 : List In := [(53, 6, 0, 0, 4, []), (55, 4, 0, 1, 2, []), (56, 75, 3145, 131, 2, [76, 0]), (59, 55, 1, 0, 6, []), (62, 1, -103, 1, 0, []), (64, 60, 0, 0, 0, [])]
def bX10_piece_6 : List In := [(65, 4, 0, 1, 3, []), (66, 59, 1, 8, 15, [7, 8, 9, 10, 11, 12, 13, 14])]
def bX10_piece_7 : List In := [(112, 6, 0, 0, 4, []), (114, 4, 0, 1, 2, []), (115, 75, 4016, 222, 2, [75, 0]), (118, 65, 4001, 209, 1, [13, 0]), (121, 60, 0, 0, 0, [])]
def bX10_piece_8 : List In := [(122, 6, 0, 0, 4, []), (124, 4, 0, 1, 2, []), (125, 75, 4017, 225, 2, [74, 0]), (128, 65, 4001, 209, 1, [13, 0]), (131, 60, 0, 0, 0, [])]
def bX10_piece_9 : List In := [(132, 6, 0, 0, 4, []), (134, 40, 7, 0, 0, [671351265, 228, 2028]), (137, 4, 0, 1, 2, []), (138, 45, 0, 0, 0, []), (139, 60, 0, 0, 0, [])]
def bX10_piece_10 : List In := [(140, 6, 0, 0, 4, []), (142, 40, 8, 0, 0, [688128481, 231, 2030]), (145, 4, 0, 1, 2, []), (146, 45, 0, 0, 0, []), (147, 60, 0, 0, 0, [])]
def bX10_piece_11 : List In := [(148, 6, 0, 0, 4, []), (150, 4, 0, 1, 2, []), (151, 75, 4021, 234, 2, [10, 0]), (154, 60, 0, 0, 0, [])]
def bX10_piece_12 : List In := [(155, 6, 0, 0, 4, []), (157, 4, 0, 1, 2, []), (158, 78, 3207, 238, 2, [12, 0]), (161, 37, 1, 0, 6, [102, 1048]), (164, 60, 0, 0, 0, [])]
def bX10_piece_13 : List In := [(165, 6, 0, 0, 4, []), (167, 40, 13, 0, 0, [772014561, 242, 2039]), (170, 4, 0, 1, 2, []), (171, 45, 0, 0, 0, []), (172, 60, 0, 0, 0, [])]
def bX10_piece_14 : List In := [(173, 6, 0, 0, 4, []), (175, 40, 14, 0, 0, [788791777, 245, 2042]), (178, 4, 0, 1, 2, []), (179, 45, 0, 0, 0, []), (180, 60, 0, 0, 0, [])]
def bX10_piece_15 : List In := [(181, 6, 0, 0, 4, []), (183, 4, 0, 1, 2, []), (184, 75, 4025, 248, 2, [9, 0]), (187, 60, 0, 0, 0, [])]
def BX10_piece : List (List In) := [bX10_piece_0, bX10_piece_1, bX10_piece_2, bX10_piece_3, bX10_piece_4, bX10_piece_5, bX10_piece_6, bX10_piece_7, bX10_piece_8, bX10_piece_9, bX10_piece_10, bX10_piece_11, bX10_piece_12, bX10_piece_13, bX10_piece_14, bX10_piece_15]
set_option maxRecDepth 100000 in
theorem mkX10_piece : MkB 228 BX10_piece := MkB_of (by decide +kernel)
theorem lX10_piece : (sgD 228).2.2.1 = 5 := rfl
theorem eX10_piece_0 : BX10_piece.getD 0 [] = bX10_piece_0 := rfl
theorem eX10_piece_1 : BX10_piece.getD 1 [] = bX10_piece_1 := rfl
theorem eX10_piece_2 : BX10_piece.getD 2 [] = bX10_piece_2 := rfl
theorem eX10_piece_3 : BX10_piece.getD 3 [] = bX10_piece_3 := rfl
theorem eX10_piece_4 : BX10_piece.getD 4 [] = bX10_piece_4 := rfl
theorem eX10_piece_5 : BX10_piece.getD 5 [] = bX10_piece_5 := rfl
theorem eX10_piece_6 : BX10_piece.getD 6 [] = bX10_piece_6 := rfl
theorem eX10_piece_7 : BX10_piece.getD 7 [] = bX10_piece_7 := rfl
theorem eX10_piece_8 : BX10_piece.getD 8 [] = bX10_piece_8 := rfl
theorem eX10_piece_9 : BX10_piece.getD 9 [] = bX10_piece_9 := rfl
theorem eX10_piece_10 : BX10_piece.getD 10 [] = bX10_piece_10 := rfl
theorem eX10_piece_11 : BX10_piece.getD 11 [] = bX10_piece_11 := rfl
theorem eX10_piece_12 : BX10_piece.getD 12 [] = bX10_piece_12 := rfl
theorem eX10_piece_13 : BX10_piece.getD 13 [] = bX10_piece_13 := rfl
theorem eX10_piece_14 : BX10_piece.getD 14 [] = bX10_piece_14 := rfl
theorem eX10_piece_15 : BX10_piece.getD 15 [] = bX10_piece_15 := rfl
def bX10_put_0 : List In := [(0, 4, 0, 1, 1, []), (1, 65, 2238, 88, 1, [19, 0]), (4, 55, 1, 0, 1, []), (7, 1, -1, 0, 0, []), (8, 60, 0, 0, 0, [])]
def bX10_put_1 : List In := [(9, 4, 0, 1, 2, []), (10, 55, 2, 0, 2, []), (13, 4, 0, 1, 2, []), (14, 1, 2, 0, 0, []), (15, 56, 5, 0, 3, []), (18, 58, 0, 0, 2, [])]
def bX10_put_2 : List In := [(18, 1, -2, 1, 0, []), (20, 60, 0, 0, 0, [])]
def bX10_put_3 : List In := [(21, 4, 0, 1, 2, []), (22, 1, 2, 0, 0, []), (23, 56, 1, 0, 5, []), (26, 4, 0, 0, 5, []), (28, 1, 1, 0, 0, []), (29, 56, 2, 0, 4, []), (32, 4, 0, 0, 5, []), (34, 1, 9, 1, 0, []), (36, 56, 5, 0, 5, []), (39, 58, 0, 0, 4, [])]
def bX10_put_4 : List In := [(39, 1, -2, 1, 0, []), (41, 60, 0, 0, 0, [])]
def bX10_put_5 : List In := [(42, 6, 0, 1, 0, []), (43, 39, 0, 0, 10, [33685536, 12, 2191]), (46, 75, 3017, 106, 1, [55, 4]), (49, 55, 0, 0, 6, []), (52, 1, -4, 1, 0, []), (54, 60, 0, 0, 0, [])]
def bX10_put_6 : List In := [(55, 6, 0, 1, 0, []), (56, 4, 0, 1, 1, []), (57, 78, 3021, 107, 2, [202, 10]), (60, 9, 0, 0, 6, []), (62, 6, 0, 0, 6, []), (64, 4, 0, 1, 3, []), (65, 75, 3110, 111, 2, [127, 0]), (68, 55, 0, 0, 7, []), (71, 6, 0, 0, 6, []), (73, 4, 0, 0, 4, []), (75, 75, 3114, 114, 2, [129, 0]), (78, 55, 1, 0, 8, []), (81, 58, 0, 0, 7, [])]
def bX10_put_7 : List In := [(81, 1, -5, 1, 0, []), (83, 60, 0, 0, 0, [])]
def bX10_put_8 : List In := [(84, 6, 0, 1, 0, []), (85, 4, 0, 1, 1, []), (86, 1, 0, 0, 0, []), (87, 6, 0, 1, 0, []), (88, 39, 0, 0, 10, [33685536, 12, 2191]), (91, 37, 11, 0, 4, [117, 1096]), (94, 4, 0, 1, 3, []), (95, 4, 0, 0, 4, []), (97, 75, 3118, 120, 6, [169, 10]), (100, 7, 0, 0, 7, []), (102, 6, 0, 1, 0, []), (103, 39, 0, 0, 10, [33685536, 12, 2191]), (106, 39, 6, 0, 4, [335675873, 124, 1077]), (109, 4, 0, 0, 7, []), (111, 4, 0, 1, 2, []), (112, 50, 0, 0, 0, []), (113, 6, 0, 1, 0, []), (114, 39, 0, 0, 10, [33685536, 12, 2191]), (117, 39, 7, 0, 4, [352453089, 128, 1081]), (120, 4, 0, 0, 7, []), (122, 4, 0, 1, 2, []), (123, 1, 2, 0, 0, []), (124, 56, 1, 0, 9, []), (127, 4, 0, 0, 5, []), (129, 57, 0, 0, 10, [])]
def bX10_put_9 : List In := [(132, 1, 0, 0, 0, []), (133, 58, 0, 0, 10, [])]
def bX10_put_10 : List In := [(133, 50, 0, 0, 0, []), (134, 4, 0, 0, 7, []), (136, 60, 0, 0, 0, [])]
def BX10_put : List (List In) := [bX10_put_0, bX10_put_1, bX10_put_2, bX10_put_3, bX10_put_4, bX10_put_5, bX10_put_6, bX10_put_7, bX10_put_8, bX10_put_9, bX10_put_10]
set_option maxRecDepth 100000 in
theorem mkX10_put : MkB 229 BX10_put := MkB_of (by decide +kernel)
theorem lX10_put : (sgD 229).2.2.1 = 8 := rfl
theorem eX10_put_0 : BX10_put.getD 0 [] = bX10_put_0 := rfl
theorem eX10_put_1 : BX10_put.getD 1 [] = bX10_put_1 := rfl
theorem eX10_put_2 : BX10_put.getD 2 [] = bX10_put_2 := rfl
theorem eX10_put_3 : BX10_put.getD 3 [] = bX10_put_3 := rfl
theorem eX10_put_4 : BX10_put.getD 4 [] = bX10_put_4 := rfl
theorem eX10_put_5 : BX10_put.getD 5 [] = bX10_put_5 := rfl
theorem eX10_put_6 : BX10_put.getD 6 [] = bX10_put_6 := rfl
theorem eX10_put_7 : BX10_put.getD 7 [] = bX10_put_7 := rfl
theorem eX10_put_8 : BX10_put.getD 8 [] = bX10_put_8 := rfl
theorem eX10_put_9 : BX10_put.getD 9 [] = bX10_put_9 := rfl
theorem eX10_put_10 : BX10_put.getD 10 [] = bX10_put_10 := rfl
def bX10_say_0 : List In := [(0, 6, 0, 1, 0, []), (1, 4, 0, 1, 1, []), (2, 75, 3233, 203, 2, [83, 10]), (5, 55, 0, 0, 1, []), (8, 6, 0, 1, 0, []), (9, 4, 0, 1, 2, []), (10, 75, 3225, 188, 2, [17, 10]), (13, 55, 1, 0, 2, []), (16, 58, 0, 0, 1, [])]
def bX10_say_1 : List In := [(16, 1, -1, 0, 0, []), (17, 60, 0, 0, 0, [])]
def bX10_say_2 : List In := [(18, 6, 0, 1, 0, []), (19, 4, 0, 1, 1, []), (20, 78, 3021, 107, 2, [202, 10]), (23, 4, 0, 1, 2, []), (24, 75, 3190, 152, 2, [126, 0]), (27, 65, 4001, 209, 1, [13, 0]), (30, 60, 0, 0, 0, [])]
def BX10_say : List (List In) := [bX10_say_0, bX10_say_1, bX10_say_2]
set_option maxRecDepth 100000 in
theorem mkX10_say : MkB 230 BX10_say := MkB_of (by decide +kernel)
theorem lX10_say : (sgD 230).2.2.1 = 3 := rfl
theorem eX10_say_0 : BX10_say.getD 0 [] = bX10_say_0 := rfl
theorem eX10_say_1 : BX10_say.getD 1 [] = bX10_say_1 := rfl
theorem eX10_say_2 : BX10_say.getD 2 [] = bX10_say_2 := rfl
def bX10_seek_0 : List In := [(0, 6, 0, 1, 0, []), (1, 4, 0, 1, 1, []), (2, 75, 3233, 203, 2, [83, 10]), (5, 55, 0, 0, 1, []), (8, 4, 0, 1, 2, []), (9, 65, 2238, 88, 1, [19, 0]), (12, 55, 1, 0, 2, []), (15, 58, 0, 0, 1, [])]
def bX10_seek_1 : List In := [(15, 1, -1, 0, 0, []), (16, 60, 0, 0, 0, [])]
def bX10_seek_2 : List In := [(17, 6, 0, 1, 0, []), (18, 39, 2, 0, 10, [2097283124, 22, 2193]), (21, 4, 0, 1, 2, []), (22, 48, 0, 0, 0, []), (23, 9, 0, 0, 4, []), (25, 6, 0, 0, 4, []), (27, 37, 1, 0, 6, [102, 1048]), (30, 55, 1, 0, 3, []), (33, 1, -3, 1, 0, []), (35, 60, 0, 0, 0, [])]
def bX10_seek_3 : List In := [(36, 6, 0, 1, 0, []), (37, 4, 0, 1, 1, []), (38, 78, 3021, 107, 2, [202, 10]), (41, 9, 0, 0, 5, []), (43, 1, 0, 0, 0, []), (44, 7, 0, 0, 6, []), (46, 1, 0, 0, 0, []), (47, 7, 0, 0, 7, []), (49, 58, 0, 0, 1004, [])]
def bX10_seek_4 : List In := [(49, 4, 0, 0, 7, []), (51, 6, 0, 0, 5, []), (53, 37, 16, 0, 0, [213, 2048]), (56, 56, 3, 0, 10, []), (59, 6, 0, 0, 5, []), (61, 40, 15, 0, 0, [805568993, 216, 2045]), (64, 4, 0, 0, 7, []), (66, 45, 0, 0, 0, []), (67, 7, 0, 0, 8, []), (69, 6, 0, 0, 5, []), (71, 4, 0, 0, 8, []), (73, 78, 3207, 238, 2, [12, 0]), (76, 9, 0, 0, 9, []), (78, 1, 0, 0, 0, []), (79, 7, 0, 0, 10, []), (81, 58, 0, 0, 1005, [])]
def bX10_seek_5 : List In := [(81, 4, 0, 0, 10, []), (83, 6, 0, 0, 4, []), (85, 37, 1, 0, 6, [102, 1048]), (88, 11, 0, 0, 0, []), (89, 6, 0, 0, 9, []), (91, 37, 1, 0, 6, [102, 1048]), (94, 56, 4, 0, 9, []), (97, 6, 0, 1, 0, []), (98, 39, 6, 0, 10, [50462744, 32, 2197]), (101, 6, 0, 0, 4, []), (103, 6, 0, 0, 9, []), (105, 4, 0, 0, 10, []), (107, 75, 4037, 257, 4, [53, 3]), (110, 55, 1, 0, 6, []), (113, 57, 0, 0, 8, [])]
def bX10_seek_6 : List In := [(116, 4, 0, 0, 6, []), (118, 4, 0, 1, 3, []), (119, 56, 1, 0, 7, []), (122, 1, 10, 1, 0, []), (124, 4, 0, 0, 8, []), (126, 13, 0, 0, 0, []), (127, 4, 0, 0, 10, []), (129, 11, 0, 0, 0, []), (130, 60, 0, 0, 0, [])]
def bX10_seek_7 : List In := [(131, 10, 1, 0, 6, []), (134, 58, 0, 0, 8, [])]
def bX10_seek_8 : List In := [(134, 10, 1, 0, 10, []), (137, 57, 0, 0, 1005, [])]
def bX10_seek_9 : List In := [(140, 10, 1, 0, 7, []), (143, 57, 0, 0, 1004, [])]
def bX10_seek_10 : List In := [(146, 4, 0, 1, 3, []), (147, 1, -1, 0, 0, []), (148, 56, 1, 0, 11, []), (151, 4, 0, 0, 6, []), (153, 57, 0, 0, 12, [])]
def bX10_seek_11 : List In := [(156, 1, -6, 1, 0, []), (158, 58, 0, 0, 12, [])]
def bX10_seek_12 : List In := [(158, 60, 0, 0, 0, [])]
def BX10_seek : List (List In) := [bX10_seek_0, bX10_seek_1, bX10_seek_2, bX10_seek_3, bX10_seek_4, bX10_seek_5, bX10_seek_6, bX10_seek_7, bX10_seek_8, bX10_seek_9, bX10_seek_10, bX10_seek_11, bX10_seek_12]
set_option maxRecDepth 100000 in
theorem mkX10_seek : MkB 231 BX10_seek := MkB_of (by decide +kernel)
theorem lX10_seek : (sgD 231).2.2.1 = 11 := rfl
theorem eX10_seek_0 : BX10_seek.getD 0 [] = bX10_seek_0 := rfl
theorem eX10_seek_1 : BX10_seek.getD 1 [] = bX10_seek_1 := rfl
theorem eX10_seek_2 : BX10_seek.getD 2 [] = bX10_seek_2 := rfl
theorem eX10_seek_3 : BX10_seek.getD 3 [] = bX10_seek_3 := rfl
theorem eX10_seek_4 : BX10_seek.getD 4 [] = bX10_seek_4 := rfl
theorem eX10_seek_5 : BX10_seek.getD 5 [] = bX10_seek_5 := rfl
theorem eX10_seek_6 : BX10_seek.getD 6 [] = bX10_seek_6 := rfl
theorem eX10_seek_7 : BX10_seek.getD 7 [] = bX10_seek_7 := rfl
theorem eX10_seek_8 : BX10_seek.getD 8 [] = bX10_seek_8 := rfl
theorem eX10_seek_9 : BX10_seek.getD 9 [] = bX10_seek_9 := rfl
theorem eX10_seek_10 : BX10_seek.getD 10 [] = bX10_seek_10 := rfl
theorem eX10_seek_11 : BX10_seek.getD 11 [] = bX10_seek_11 := rfl
theorem eX10_seek_12 : BX10_seek.getD 12 [] = bX10_seek_12 := rfl
def bX10_seen_0 : List In := [(0, 6, 0, 1, 0, []), (1, 4, 0, 1, 1, []), (2, 75, 3233, 203, 2, [83, 10]), (5, 55, 1, 0, 1, []), (8, 1, -1, 0, 0, []), (9, 60, 0, 0, 0, [])]
def bX10_seen_1 : List In := [(10, 6, 0, 1, 0, []), (11, 4, 0, 1, 1, []), (12, 78, 3021, 107, 2, [202, 10]), (15, 9, 0, 1, 3, []), (16, 4, 0, 1, 2, []), (17, 1, -1, 0, 0, []), (18, 56, 1, 0, 2, []), (21, 6, 0, 1, 3, []), (22, 37, 16, 0, 0, [213, 2048]), (25, 60, 0, 0, 0, [])]
def bX10_seen_2 : List In := [(26, 4, 0, 1, 2, []), (27, 55, 2, 0, 3, []), (30, 4, 0, 1, 2, []), (31, 6, 0, 1, 3, []), (32, 37, 16, 0, 0, [213, 2048]), (35, 56, 3, 0, 3, []), (38, 6, 0, 1, 3, []), (39, 40, 15, 0, 0, [805568993, 216, 2045]), (42, 4, 0, 1, 2, []), (43, 45, 0, 0, 0, []), (44, 57, 0, 0, 4, [])]
def bX10_seen_3 : List In := [(47, 1, -6, 1, 0, []), (49, 58, 0, 0, 4, [])]
def bX10_seen_4 : List In := [(49, 60, 0, 0, 0, [])]
def BX10_seen : List (List In) := [bX10_seen_0, bX10_seen_1, bX10_seen_2, bX10_seen_3, bX10_seen_4]
set_option maxRecDepth 100000 in
theorem mkX10_seen : MkB 232 BX10_seen := MkB_of (by decide +kernel)
theorem lX10_seen : (sgD 232).2.2.1 = 4 := rfl
theorem eX10_seen_0 : BX10_seen.getD 0 [] = bX10_seen_0 := rfl
theorem eX10_seen_1 : BX10_seen.getD 1 [] = bX10_seen_1 := rfl
theorem eX10_seen_2 : BX10_seen.getD 2 [] = bX10_seen_2 := rfl
theorem eX10_seen_3 : BX10_seen.getD 3 [] = bX10_seen_3 := rfl
theorem eX10_seen_4 : BX10_seen.getD 4 [] = bX10_seen_4 := rfl
def bX10_setEdition_0 : List In := [(0, 6, 0, 1, 0, []), (1, 39, 12, 0, 10, [134479928, 78, 2203]), (4, 6, 0, 1, 0, []), (5, 39, 9, 0, 10, [100794432, 57, 2200]), (8, 39, 0, 0, 8, [587333683, 441, 1233]), (11, 4, 0, 1, 1, []), (12, 47, 0, 0, 0, []), (13, 6, 0, 1, 0, []), (14, 37, 5, 0, 10, [165, 2196]), (17, 6, 0, 1, 0, []), (18, 39, 9, 0, 10, [100794432, 57, 2200]), (21, 4, 0, 1, 1, []), (22, 79, 4206, 408, 5, [218, 7]), (25, 64, 0, 0, 0, [])]
def BX10_setEdition : List (List In) := [bX10_setEdition_0]
set_option maxRecDepth 100000 in
theorem mkX10_setEdition : MkB 233 BX10_setEdition := MkB_of (by decide +kernel)
theorem lX10_setEdition : (sgD 233).2.2.1 = 2 := rfl
theorem eX10_setEdition_0 : BX10_setEdition.getD 0 [] = bX10_setEdition_0 := rfl
def bX10_settle_0 : List In := [(0, 4, 0, 1, 1, []), (1, 65, 2238, 88, 1, [19, 0]), (4, 55, 0, 0, 1, []), (7, 6, 0, 1, 0, []), (8, 4, 0, 0, 4, []), (10, 75, 3233, 203, 2, [83, 10]), (13, 55, 1, 0, 2, []), (16, 58, 0, 0, 1, [])]
def bX10_settle_1 : List In := [(16, 1, -1, 0, 0, []), (17, 60, 0, 0, 0, [])]
def bX10_settle_2 : List In := [(18, 4, 0, 1, 3, []), (19, 55, 2, 0, 3, []), (22, 4, 0, 1, 3, []), (23, 1, 4, 0, 0, []), (24, 56, 5, 0, 4, []), (27, 58, 0, 0, 3, [])]
def bX10_settle_3 : List In := [(27, 1, -2, 1, 0, []), (29, 60, 0, 0, 0, [])]
def bX10_settle_4 : List In := [(30, 6, 0, 1, 0, []), (31, 39, 0, 0, 10, [33685536, 12, 2191]), (34, 75, 3017, 106, 1, [55, 4]), (37, 55, 0, 0, 5, []), (40, 1, -4, 1, 0, []), (42, 60, 0, 0, 0, [])]
def bX10_settle_5 : List In := [(43, 6, 0, 1, 0, []), (44, 4, 0, 1, 1, []), (45, 78, 3021, 107, 2, [202, 10]), (48, 9, 0, 0, 5, []), (50, 6, 0, 1, 0, []), (51, 72, 11, 0, 10, [117702656, 70, 2202]), (54, 6, 0, 1, 0, []), (55, 4, 0, 0, 4, []), (57, 77, 3025, 267, 2, [23, 10]), (60, 6, 0, 1, 0, []), (61, 37, 5, 0, 10, [165, 2196]), (64, 79, 3029, 168, 3, [183, 0]), (67, 6, 0, 0, 5, []), (69, 4, 0, 1, 2, []), (70, 75, 3145, 131, 2, [76, 0]), (73, 55, 0, 0, 6, []), (76, 6, 0, 1, 0, []), (77, 72, 11, 0, 10, [117702656, 70, 2202]), (80, 4, 0, 1, 2, []), (81, 75, 3145, 131, 2, [76, 0]), (84, 55, 1, 0, 7, []), (87, 58, 0, 0, 6, [])]
def bX10_settle_6 : List In := [(87, 1, -5, 1, 0, []), (89, 60, 0, 0, 0, [])]
def bX10_settle_7 : List In := [(90, 4, 0, 1, 3, []), (91, 1, 4, 0, 0, []), (92, 56, 1, 0, 10, []), (95, 6, 0, 1, 0, []), (96, 4, 0, 1, 1, []), (97, 6, 0, 1, 0, []), (98, 72, 11, 0, 10, [117702656, 70, 2202]), (101, 4, 0, 1, 2, []), (102, 75, 4016, 222, 2, [75, 0]), (105, 55, 0, 0, 8, []), (108, 1, 1, 0, 0, []), (109, 57, 0, 0, 9, [])]
def bX10_settle_8 : List In := [(112, 1, 6, 1, 0, []), (114, 58, 0, 0, 9, [])]
def bX10_settle_9 : List In := [(114, 4, 0, 1, 2, []), (115, 1, -6, 1, 0, []), (117, 1, -6, 1, 0, []), (119, 75, 3118, 120, 6, [169, 10]), (122, 60, 0, 0, 0, [])]
def bX10_settle_10 : List In := [(123, 4, 0, 1, 3, []), (124, 55, 1, 0, 13, []), (127, 6, 0, 1, 0, []), (128, 72, 11, 0, 10, [117702656, 70, 2202]), (131, 40, 7, 0, 0, [671351265, 228, 2028]), (134, 4, 0, 1, 2, []), (135, 45, 0, 0, 0, []), (136, 7, 0, 0, 6, []), (138, 6, 0, 0, 5, []), (140, 4, 0, 0, 6, []), (142, 75, 3110, 111, 2, [127, 0]), (145, 55, 0, 0, 11, []), (148, 6, 0, 0, 5, []), (150, 4, 0, 0, 6, []), (152, 4, 0, 1, 2, []), (153, 75, 3150, 134, 3, [6, 0]), (156, 55, 0, 0, 12, []), (159, 58, 0, 0, 11, [])]
def bX10_settle_11 : List In := [(159, 1, -5, 1, 0, []), (161, 60, 0, 0, 0, [])]
def bX10_settle_12 : List In := [(162, 57, 0, 0, 14, [])]
def bX10_settle_13 : List In := [(165, 6, 0, 0, 5, []), (167, 4, 0, 1, 2, []), (168, 75, 3155, 138, 2, [128, 0]), (171, 55, 1, 0, 14, []), (174, 1, -5, 1, 0, []), (176, 60, 0, 0, 0, [])]
def bX10_settle_14 : List In := [(177, 6, 0, 1, 0, []), (178, 6, 0, 1, 0, []), (179, 72, 11, 0, 10, [117702656, 70, 2202]), (182, 4, 0, 1, 1, []), (183, 4, 0, 1, 3, []), (184, 1, 2, 0, 0, []), (185, 11, 0, 0, 0, []), (186, 4, 0, 1, 2, []), (187, 75, 3203, 172, 5, [203, 10]), (190, 60, 0, 0, 0, [])]
def BX10_settle : List (List In) := [bX10_settle_0, bX10_settle_1, bX10_settle_2, bX10_settle_3, bX10_settle_4, bX10_settle_5, bX10_settle_6, bX10_settle_7, bX10_settle_8, bX10_settle_9, bX10_settle_10, bX10_settle_11, bX10_settle_12, bX10_settle_13, bX10_settle_14]
set_option maxRecDepth 100000 in
theorem mkX10_settle : MkB 234 BX10_settle := MkB_of (by decide +kernel)
theorem lX10_settle : (sgD 234).2.2.1 = 7 := rfl
theorem eX10_settle_0 : BX10_settle.getD 0 [] = bX10_settle_0 := rfl
theorem eX10_settle_1 : BX10_settle.getD 1 [] = bX10_settle_1 := rfl
theorem eX10_settle_2 : BX10_settle.getD 2 [] = bX10_settle_2 := rfl
theorem eX10_settle_3 : BX10_settle.getD 3 [] = bX10_settle_3 := rfl
theorem eX10_settle_4 : BX10_settle.getD 4 [] = bX10_settle_4 := rfl
theorem eX10_settle_5 : BX10_settle.getD 5 [] = bX10_settle_5 := rfl
theorem eX10_settle_6 : BX10_settle.getD 6 [] = bX10_settle_6 := rfl
theorem eX10_settle_7 : BX10_settle.getD 7 [] = bX10_settle_7 := rfl
theorem eX10_settle_8 : BX10_settle.getD 8 [] = bX10_settle_8 := rfl
theorem eX10_settle_9 : BX10_settle.getD 9 [] = bX10_settle_9 := rfl
theorem eX10_settle_10 : BX10_settle.getD 10 [] = bX10_settle_10 := rfl
theorem eX10_settle_11 : BX10_settle.getD 11 [] = bX10_settle_11 := rfl
theorem eX10_settle_12 : BX10_settle.getD 12 [] = bX10_settle_12 := rfl
theorem eX10_settle_13 : BX10_settle.getD 13 [] = bX10_settle_13 := rfl
theorem eX10_settle_14 : BX10_settle.getD 14 [] = bX10_settle_14 := rfl
def bX10_stale_0 : List In := [(0, 4, 0, 1, 1, []), (1, 65, 4120, 300, 1, [21, 0]), (4, 55, 0, 0, 1, []), (7, 6, 0, 1, 0, []), (8, 4, 0, 1, 2, []), (9, 75, 3233, 203, 2, [83, 10]), (12, 55, 1, 0, 2, []), (15, 58, 0, 0, 1, [])]
def bX10_stale_1 : List In := [(15, 1, -1, 0, 0, []), (16, 60, 0, 0, 0, [])]
def bX10_stale_2 : List In := [(17, 6, 0, 1, 0, []), (18, 4, 0, 1, 2, []), (19, 78, 3021, 107, 2, [202, 10]), (22, 9, 0, 0, 4, []), (24, 1, 0, 0, 0, []), (25, 7, 0, 0, 5, []), (27, 1, 0, 0, 0, []), (28, 7, 0, 0, 6, []), (30, 58, 0, 0, 1003, [])]
def bX10_stale_3 : List In := [(30, 4, 0, 0, 6, []), (32, 6, 0, 0, 4, []), (34, 37, 16, 0, 0, [213, 2048]), (37, 56, 3, 0, 7, []), (40, 6, 0, 1, 0, []), (41, 39, 8, 0, 10, [84017224, 50, 2199]), (44, 4, 0, 1, 1, []), (45, 6, 0, 0, 4, []), (47, 40, 15, 0, 0, [805568993, 216, 2045]), (50, 4, 0, 0, 6, []), (52, 45, 0, 0, 0, []), (53, 6, 0, 0, 4, []), (55, 75, 4132, 313, 4, [181, 9]), (58, 55, 1, 0, 4, []), (61, 57, 0, 0, 6, [])]
def bX10_stale_4 : List In := [(64, 4, 0, 0, 5, []), (66, 4, 0, 1, 3, []), (67, 56, 1, 0, 5, []), (70, 6, 0, 0, 4, []), (72, 40, 15, 0, 0, [805568993, 216, 2045]), (75, 4, 0, 0, 6, []), (77, 45, 0, 0, 0, []), (78, 60, 0, 0, 0, [])]
def bX10_stale_5 : List In := [(79, 10, 1, 0, 5, []), (82, 58, 0, 0, 6, [])]
def bX10_stale_6 : List In := [(82, 10, 1, 0, 6, []), (85, 57, 0, 0, 1003, [])]
def bX10_stale_7 : List In := [(88, 4, 0, 1, 3, []), (89, 1, -1, 0, 0, []), (90, 56, 1, 0, 8, []), (93, 4, 0, 0, 5, []), (95, 57, 0, 0, 9, [])]
def bX10_stale_8 : List In := [(98, 1, -6, 1, 0, []), (100, 58, 0, 0, 9, [])]
def bX10_stale_9 : List In := [(100, 60, 0, 0, 0, [])]
def BX10_stale : List (List In) := [bX10_stale_0, bX10_stale_1, bX10_stale_2, bX10_stale_3, bX10_stale_4, bX10_stale_5, bX10_stale_6, bX10_stale_7, bX10_stale_8, bX10_stale_9]
set_option maxRecDepth 100000 in
theorem mkX10_stale : MkB 235 BX10_stale := MkB_of (by decide +kernel)
theorem lX10_stale : (sgD 235).2.2.1 = 7 := rfl
theorem eX10_stale_0 : BX10_stale.getD 0 [] = bX10_stale_0 := rfl
theorem eX10_stale_1 : BX10_stale.getD 1 [] = bX10_stale_1 := rfl
theorem eX10_stale_2 : BX10_stale.getD 2 [] = bX10_stale_2 := rfl
theorem eX10_stale_3 : BX10_stale.getD 3 [] = bX10_stale_3 := rfl
theorem eX10_stale_4 : BX10_stale.getD 4 [] = bX10_stale_4 := rfl
theorem eX10_stale_5 : BX10_stale.getD 5 [] = bX10_stale_5 := rfl
theorem eX10_stale_6 : BX10_stale.getD 6 [] = bX10_stale_6 := rfl
theorem eX10_stale_7 : BX10_stale.getD 7 [] = bX10_stale_7 := rfl
theorem eX10_stale_8 : BX10_stale.getD 8 [] = bX10_stale_8 := rfl
theorem eX10_stale_9 : BX10_stale.getD 9 [] = bX10_stale_9 := rfl
def bX10_strike_0 : List In := [(0, 4, 0, 1, 1, []), (1, 65, 2238, 88, 1, [19, 0]), (4, 55, 1, 0, 1, []), (7, 1, -1, 0, 0, []), (8, 60, 0, 0, 0, [])]
def bX10_strike_1 : List In := [(9, 6, 0, 1, 0, []), (10, 39, 0, 0, 10, [33685536, 12, 2191]), (13, 75, 3017, 106, 1, [55, 4]), (16, 55, 0, 0, 2, []), (19, 1, -4, 1, 0, []), (21, 60, 0, 0, 0, [])]
def bX10_strike_2 : List In := [(22, 6, 0, 1, 0, []), (23, 4, 0, 1, 1, []), (24, 78, 3021, 107, 2, [202, 10]), (27, 4, 0, 1, 2, []), (28, 75, 3145, 131, 2, [76, 0]), (31, 55, 1, 0, 3, []), (34, 1, -5, 1, 0, []), (36, 60, 0, 0, 0, [])]
def bX10_strike_3 : List In := [(37, 6, 0, 1, 0, []), (38, 4, 0, 1, 1, []), (39, 1, 1, 0, 0, []), (40, 4, 0, 1, 2, []), (41, 1, -6, 1, 0, []), (43, 1, -6, 1, 0, []), (45, 75, 3118, 120, 6, [169, 10]), (48, 60, 0, 0, 0, [])]
def BX10_strike : List (List In) := [bX10_strike_0, bX10_strike_1, bX10_strike_2, bX10_strike_3]
set_option maxRecDepth 100000 in
theorem mkX10_strike : MkB 236 BX10_strike := MkB_of (by decide +kernel)
theorem lX10_strike : (sgD 236).2.2.1 = 3 := rfl
theorem eX10_strike_0 : BX10_strike.getD 0 [] = bX10_strike_0 := rfl
theorem eX10_strike_1 : BX10_strike.getD 1 [] = bX10_strike_1 := rfl
theorem eX10_strike_2 : BX10_strike.getD 2 [] = bX10_strike_2 := rfl
theorem eX10_strike_3 : BX10_strike.getD 3 [] = bX10_strike_3 := rfl
def bX10_tie_0 : List In := [(0, 4, 0, 1, 1, []), (1, 65, 2238, 88, 1, [19, 0]), (4, 55, 1, 0, 1, []), (7, 1, -1, 0, 0, []), (8, 60, 0, 0, 0, [])]
def bX10_tie_1 : List In := [(9, 6, 0, 1, 0, []), (10, 39, 0, 0, 10, [33685536, 12, 2191]), (13, 75, 3017, 106, 1, [55, 4]), (16, 55, 0, 0, 2, []), (19, 1, -4, 1, 0, []), (21, 60, 0, 0, 0, [])]
def bX10_tie_2 : List In := [(22, 6, 0, 1, 0, []), (23, 4, 0, 1, 1, []), (24, 78, 3021, 107, 2, [202, 10]), (27, 9, 0, 0, 4, []), (29, 6, 0, 0, 4, []), (31, 4, 0, 1, 2, []), (32, 75, 3155, 138, 2, [128, 0]), (35, 55, 1, 0, 3, []), (38, 1, -5, 1, 0, []), (40, 60, 0, 0, 0, [])]
def bX10_tie_3 : List In := [(41, 4, 0, 1, 3, []), (42, 1, -1, 0, 0, []), (43, 56, 0, 0, 4, []), (46, 6, 0, 0, 4, []), (48, 4, 0, 1, 3, []), (49, 75, 3145, 131, 2, [76, 0]), (52, 55, 1, 0, 4, []), (55, 1, -5, 1, 0, []), (57, 60, 0, 0, 0, [])]
def bX10_tie_4 : List In := [(58, 6, 0, 1, 0, []), (59, 4, 0, 1, 1, []), (60, 1, 5, 0, 0, []), (61, 4, 0, 1, 2, []), (62, 4, 0, 1, 3, []), (63, 1, -6, 1, 0, []), (65, 75, 3118, 120, 6, [169, 10]), (68, 60, 0, 0, 0, [])]
def BX10_tie : List (List In) := [bX10_tie_0, bX10_tie_1, bX10_tie_2, bX10_tie_3, bX10_tie_4]
set_option maxRecDepth 100000 in
theorem mkX10_tie : MkB 237 BX10_tie := MkB_of (by decide +kernel)
theorem lX10_tie : (sgD 237).2.2.1 = 5 := rfl
theorem eX10_tie_0 : BX10_tie.getD 0 [] = bX10_tie_0 := rfl
theorem eX10_tie_1 : BX10_tie.getD 1 [] = bX10_tie_1 := rfl
theorem eX10_tie_2 : BX10_tie.getD 2 [] = bX10_tie_2 := rfl
theorem eX10_tie_3 : BX10_tie.getD 3 [] = bX10_tie_3 := rfl
theorem eX10_tie_4 : BX10_tie.getD 4 [] = bX10_tie_4 := rfl
def bX10_unlike_0 : List In := [(0, 4, 0, 1, 1, []), (1, 65, 4120, 300, 1, [21, 0]), (4, 55, 0, 0, 1, []), (7, 6, 0, 1, 0, []), (8, 4, 0, 1, 2, []), (9, 75, 3233, 203, 2, [83, 10]), (12, 55, 1, 0, 2, []), (15, 58, 0, 0, 1, [])]
def bX10_unlike_1 : List In := [(15, 1, -1, 0, 0, []), (16, 60, 0, 0, 0, [])]
def bX10_unlike_2 : List In := [(17, 6, 0, 1, 0, []), (18, 4, 0, 1, 2, []), (19, 78, 3021, 107, 2, [202, 10]), (22, 9, 0, 0, 4, []), (24, 1, 0, 0, 0, []), (25, 7, 0, 0, 5, []), (27, 1, 0, 0, 0, []), (28, 7, 0, 0, 6, []), (30, 58, 0, 0, 1003, [])]
def bX10_unlike_3 : List In := [(30, 4, 0, 0, 6, []), (32, 6, 0, 0, 4, []), (34, 37, 16, 0, 0, [213, 2048]), (37, 56, 3, 0, 7, []), (40, 6, 0, 1, 0, []), (41, 39, 8, 0, 10, [84017224, 50, 2199]), (44, 4, 0, 1, 1, []), (45, 6, 0, 0, 4, []), (47, 40, 15, 0, 0, [805568993, 216, 2045]), (50, 4, 0, 0, 6, []), (52, 45, 0, 0, 0, []), (53, 6, 0, 0, 4, []), (55, 75, 4178, 339, 4, [182, 9]), (58, 55, 1, 0, 4, []), (61, 57, 0, 0, 6, [])]
def bX10_unlike_4 : List In := [(64, 4, 0, 0, 5, []), (66, 4, 0, 1, 3, []), (67, 56, 1, 0, 5, []), (70, 6, 0, 0, 4, []), (72, 40, 15, 0, 0, [805568993, 216, 2045]), (75, 4, 0, 0, 6, []), (77, 45, 0, 0, 0, []), (78, 60, 0, 0, 0, [])]
def bX10_unlike_5 : List In := [(79, 10, 1, 0, 5, []), (82, 58, 0, 0, 6, [])]
def bX10_unlike_6 : List In := [(82, 10, 1, 0, 6, []), (85, 57, 0, 0, 1003, [])]
def bX10_unlike_7 : List In := [(88, 4, 0, 1, 3, []), (89, 1, -1, 0, 0, []), (90, 56, 1, 0, 8, []), (93, 4, 0, 0, 5, []), (95, 57, 0, 0, 9, [])]
def bX10_unlike_8 : List In := [(98, 1, -6, 1, 0, []), (100, 58, 0, 0, 9, [])]
def bX10_unlike_9 : List In := [(100, 60, 0, 0, 0, [])]
def BX10_unlike : List (List In) := [bX10_unlike_0, bX10_unlike_1, bX10_unlike_2, bX10_unlike_3, bX10_unlike_4, bX10_unlike_5, bX10_unlike_6, bX10_unlike_7, bX10_unlike_8, bX10_unlike_9]
set_option maxRecDepth 100000 in
theorem mkX10_unlike : MkB 238 BX10_unlike := MkB_of (by decide +kernel)
theorem lX10_unlike : (sgD 238).2.2.1 = 7 := rfl
theorem eX10_unlike_0 : BX10_unlike.getD 0 [] = bX10_unlike_0 := rfl
theorem eX10_unlike_1 : BX10_unlike.getD 1 [] = bX10_unlike_1 := rfl
theorem eX10_unlike_2 : BX10_unlike.getD 2 [] = bX10_unlike_2 := rfl
theorem eX10_unlike_3 : BX10_unlike.getD 3 [] = bX10_unlike_3 := rfl
theorem eX10_unlike_4 : BX10_unlike.getD 4 [] = bX10_unlike_4 := rfl
theorem eX10_unlike_5 : BX10_unlike.getD 5 [] = bX10_unlike_5 := rfl
theorem eX10_unlike_6 : BX10_unlike.getD 6 [] = bX10_unlike_6 := rfl
theorem eX10_unlike_7 : BX10_unlike.getD 7 [] = bX10_unlike_7 := rfl
theorem eX10_unlike_8 : BX10_unlike.getD 8 [] = bX10_unlike_8 := rfl
theorem eX10_unlike_9 : BX10_unlike.getD 9 [] = bX10_unlike_9 := rfl
def bX10_words_0 : List In := [(0, 4, 0, 1, 1, []), (1, 65, 2238, 88, 1, [19, 0]), (4, 55, 1, 0, 1, []), (7, 1, -1, 0, 0, []), (8, 60, 0, 0, 0, [])]
def bX10_words_1 : List In := [(9, 6, 0, 1, 0, []), (10, 39, 0, 0, 10, [33685536, 12, 2191]), (13, 75, 3017, 106, 1, [55, 4]), (16, 55, 0, 0, 2, []), (19, 1, -4, 1, 0, []), (21, 60, 0, 0, 0, [])]
def bX10_words_2 : List In := [(22, 6, 0, 1, 0, []), (23, 4, 0, 1, 1, []), (24, 78, 3021, 107, 2, [202, 10]), (27, 4, 0, 1, 2, []), (28, 75, 3155, 138, 2, [128, 0]), (31, 55, 1, 0, 3, []), (34, 1, -5, 1, 0, []), (36, 60, 0, 0, 0, [])]
def bX10_words_3 : List In := [(37, 6, 0, 1, 0, []), (38, 4, 0, 1, 1, []), (39, 4, 0, 1, 2, []), (40, 6, 0, 1, 0, []), (41, 39, 2, 0, 10, [2097283124, 22, 2193]), (44, 4, 0, 1, 1, []), (45, 48, 0, 0, 0, []), (46, 75, 3159, 141, 4, [186, 10]), (49, 7, 0, 1, 3, []), (50, 6, 0, 1, 0, []), (51, 39, 2, 0, 10, [2097283124, 22, 2193]), (54, 4, 0, 1, 1, []), (55, 48, 0, 0, 0, []), (56, 79, 3176, 145, 1, [60, 6]), (59, 4, 0, 1, 3, []), (60, 60, 0, 0, 0, [])]
def BX10_words : List (List In) := [bX10_words_0, bX10_words_1, bX10_words_2, bX10_words_3]
set_option maxRecDepth 100000 in
theorem mkX10_words : MkB 239 BX10_words := MkB_of (by decide +kernel)
theorem lX10_words : (sgD 239).2.2.1 = 4 := rfl
theorem eX10_words_0 : BX10_words.getD 0 [] = bX10_words_0 := rfl
theorem eX10_words_1 : BX10_words.getD 1 [] = bX10_words_1 := rfl
theorem eX10_words_2 : BX10_words.getD 2 [] = bX10_words_2 := rfl
theorem eX10_words_3 : BX10_words.getD 3 [] = bX10_words_3 := rfl
def bX10_yes_0 : List In := [(0, 4, 0, 1, 1, []), (1, 65, 2238, 88, 1, [19, 0]), (4, 55, 1, 0, 1, []), (7, 1, -1, 0, 0, []), (8, 60, 0, 0, 0, [])]
def bX10_yes_1 : List In := [(9, 6, 0, 1, 0, []), (10, 39, 7, 0, 10, [67239952, 41, 2198]), (13, 37, 7, 0, 2, [285, 1158]), (16, 1, 20, 1, 0, []), (18, 56, 2, 0, 2, []), (21, 1, -4, 1, 0, []), (23, 60, 0, 0, 0, [])]
def bX10_yes_2 : List In := [(24, 6, 0, 1, 0, []), (25, 4, 0, 1, 1, []), (26, 78, 3021, 107, 2, [202, 10]), (29, 9, 0, 1, 3, []), (30, 4, 0, 1, 2, []), (31, 1, -1, 0, 0, []), (32, 56, 0, 0, 3, []), (35, 6, 0, 1, 3, []), (36, 4, 0, 1, 2, []), (37, 75, 4017, 225, 2, [74, 0]), (40, 55, 1, 0, 3, []), (43, 1, -5, 1, 0, []), (45, 60, 0, 0, 0, [])]
def bX10_yes_3 : List In := [(46, 6, 0, 1, 0, []), (47, 39, 7, 0, 10, [67239952, 41, 2198]), (50, 4, 0, 1, 1, []), (51, 4, 0, 1, 2, []), (52, 6, 0, 1, 3, []), (53, 79, 4078, 288, 4, [199, 2]), (56, 6, 0, 1, 0, []), (57, 39, 7, 0, 10, [67239952, 41, 2198]), (60, 37, 7, 0, 2, [285, 1158]), (63, 60, 0, 0, 0, [])]
def BX10_yes : List (List In) := [bX10_yes_0, bX10_yes_1, bX10_yes_2, bX10_yes_3]
set_option maxRecDepth 100000 in
theorem mkX10_yes : MkB 240 BX10_yes := MkB_of (by decide +kernel)
theorem lX10_yes : (sgD 240).2.2.1 = 4 := rfl
theorem eX10_yes_0 : BX10_yes.getD 0 [] = bX10_yes_0 := rfl
theorem eX10_yes_1 : BX10_yes.getD 1 [] = bX10_yes_1 := rfl
theorem eX10_yes_2 : BX10_yes.getD 2 [] = bX10_yes_2 := rfl
theorem eX10_yes_3 : BX10_yes.getD 3 [] = bX10_yes_3 := rfl
def bX10_index_0 : List In := [(0, 6, 0, 1, 0, []), (1, 4, 0, 1, 1, []), (2, 75, 4198, 346, 2, [18, 10]), (5, 55, 1, 0, 1, []), (8, 1, -1, 0, 0, []), (9, 60, 0, 0, 0, [])]
def bX10_index_1 : List In := [(10, 4, 0, 1, 2, []), (11, 65, 3001, 92, 1, [22, 0]), (14, 55, 1, 0, 2, []), (17, 1, -2, 1, 0, []), (19, 60, 0, 0, 0, [])]
def bX10_index_2 : List In := [(20, 6, 0, 1, 0, []), (21, 4, 0, 1, 1, []), (22, 79, 4202, 349, 2, [233, 10]), (25, 1, 0, 0, 0, []), (26, 7, 0, 0, 4, []), (28, 1, 0, 0, 0, []), (29, 7, 0, 0, 5, []), (31, 1, 0, 0, 0, []), (32, 7, 0, 0, 6, []), (34, 58, 0, 0, 1003, [])]
def bX10_index_3 : List In := [(34, 4, 0, 0, 6, []), (36, 6, 0, 1, 0, []), (37, 39, 10, 0, 10, [117702656, 66, 2201]), (40, 37, 16, 0, 0, [213, 2048]), (43, 56, 3, 0, 9, []), (46, 6, 0, 1, 0, []), (47, 39, 10, 0, 10, [117702656, 66, 2201]), (50, 40, 15, 0, 0, [805568993, 216, 2045]), (53, 4, 0, 0, 6, []), (55, 45, 0, 0, 0, []), (56, 7, 0, 0, 7, []), (58, 1, 0, 0, 0, []), (59, 7, 0, 0, 8, []), (61, 58, 0, 0, 1004, [])]
def bX10_index_4 : List In := [(61, 4, 0, 0, 8, []), (63, 6, 0, 1, 0, []), (64, 39, 12, 0, 10, [134479928, 78, 2203]), (67, 40, 9, 0, 7, [872677857, 394, 2145]), (70, 4, 0, 0, 7, []), (72, 45, 0, 0, 0, []), (73, 56, 3, 0, 8, []), (76, 6, 0, 1, 0, []), (77, 39, 12, 0, 10, [134479928, 78, 2203]), (80, 40, 10, 0, 7, [889458913, 397, 2147]), (83, 4, 0, 0, 7, []), (85, 1, 9, 1, 0, []), (87, 13, 0, 0, 0, []), (88, 4, 0, 0, 8, []), (90, 11, 0, 0, 0, []), (91, 45, 0, 0, 0, []), (92, 7, 0, 0, 9, []), (94, 4, 0, 0, 9, []), (96, 4, 0, 0, 5, []), (98, 56, 0, 0, 7, []), (101, 6, 0, 1, 0, []), (102, 39, 12, 0, 10, [134479928, 78, 2203]), (105, 4, 0, 1, 2, []), (106, 4, 0, 0, 7, []), (108, 4, 0, 0, 8, []), (110, 75, 5057, 400, 4, [124, 7]), (113, 55, 1, 0, 5, []), (116, 57, 0, 0, 7, [])]
def bX10_index_5 : List In := [(119, 4, 0, 0, 4, []), (121, 4, 0, 1, 3, []), (122, 56, 1, 0, 6, []), (125, 4, 0, 0, 9, []), (127, 60, 0, 0, 0, [])]
def bX10_index_6 : List In := [(128, 10, 1, 0, 4, []), (131, 4, 0, 0, 9, []), (133, 7, 0, 0, 5, []), (135, 58, 0, 0, 7, [])]
def bX10_index_7 : List In := [(135, 10, 1, 0, 8, []), (138, 57, 0, 0, 1004, [])]
def bX10_index_8 : List In := [(141, 10, 1, 0, 6, []), (144, 57, 0, 0, 1003, [])]
def bX10_index_9 : List In := [(147, 4, 0, 1, 3, []), (148, 1, -1, 0, 0, []), (149, 56, 1, 0, 10, []), (152, 4, 0, 0, 4, []), (154, 57, 0, 0, 11, [])]
def bX10_index_10 : List In := [(157, 1, -6, 1, 0, []), (159, 58, 0, 0, 11, [])]
def bX10_index_11 : List In := [(159, 60, 0, 0, 0, [])]
def BX10_index : List (List In) := [bX10_index_0, bX10_index_1, bX10_index_2, bX10_index_3, bX10_index_4, bX10_index_5, bX10_index_6, bX10_index_7, bX10_index_8, bX10_index_9, bX10_index_10, bX10_index_11]
set_option maxRecDepth 100000 in
theorem mkX10_index : MkB 242 BX10_index := MkB_of (by decide +kernel)
theorem lX10_index : (sgD 242).2.2.1 = 10 := rfl
theorem eX10_index_0 : BX10_index.getD 0 [] = bX10_index_0 := rfl
theorem eX10_index_1 : BX10_index.getD 1 [] = bX10_index_1 := rfl
theorem eX10_index_2 : BX10_index.getD 2 [] = bX10_index_2 := rfl
theorem eX10_index_3 : BX10_index.getD 3 [] = bX10_index_3 := rfl
theorem eX10_index_4 : BX10_index.getD 4 [] = bX10_index_4 := rfl
theorem eX10_index_5 : BX10_index.getD 5 [] = bX10_index_5 := rfl
theorem eX10_index_6 : BX10_index.getD 6 [] = bX10_index_6 := rfl
theorem eX10_index_7 : BX10_index.getD 7 [] = bX10_index_7 := rfl
theorem eX10_index_8 : BX10_index.getD 8 [] = bX10_index_8 := rfl
theorem eX10_index_9 : BX10_index.getD 9 [] = bX10_index_9 := rfl
theorem eX10_index_10 : BX10_index.getD 10 [] = bX10_index_10 := rfl
theorem eX10_index_11 : BX10_index.getD 11 [] = bX10_index_11 := rfl
def bX10_line_0 : List In := [(0, 6, 0, 1, 0, []), (1, 4, 0, 1, 1, []), (2, 75, 4198, 346, 2, [18, 10]), (5, 55, 1, 0, 1, []), (8, 1, -1, 0, 0, []), (9, 60, 0, 0, 0, [])]
def bX10_line_1 : List In := [(10, 6, 0, 1, 0, []), (11, 4, 0, 1, 1, []), (12, 79, 4202, 349, 2, [233, 10]), (15, 6, 0, 1, 0, []), (16, 39, 10, 0, 10, [117702656, 66, 2201]), (19, 4, 0, 1, 2, []), (20, 75, 4017, 225, 2, [74, 0]), (23, 55, 1, 0, 2, []), (26, 1, -1, 0, 0, []), (27, 60, 0, 0, 0, [])]
def bX10_line_2 : List In := [(28, 6, 0, 1, 0, []), (29, 39, 12, 0, 10, [134479928, 78, 2203]), (32, 4, 0, 1, 2, []), (33, 4, 0, 1, 3, []), (34, 75, 5049, 390, 3, [68, 7]), (37, 60, 0, 0, 0, [])]
def BX10_line : List (List In) := [bX10_line_0, bX10_line_1, bX10_line_2]
set_option maxRecDepth 100000 in
theorem mkX10_line : MkB 243 BX10_line := MkB_of (by decide +kernel)
theorem lX10_line : (sgD 243).2.2.1 = 4 := rfl
theorem eX10_line_0 : BX10_line.getD 0 [] = bX10_line_0 := rfl
theorem eX10_line_1 : BX10_line.getD 1 [] = bX10_line_1 := rfl
theorem eX10_line_2 : BX10_line.getD 2 [] = bX10_line_2 := rfl
def bX10_onPage_0 : List In := [(0, 6, 0, 1, 0, []), (1, 4, 0, 1, 1, []), (2, 75, 4198, 346, 2, [18, 10]), (5, 55, 1, 0, 1, []), (8, 1, -1, 0, 0, []), (9, 60, 0, 0, 0, [])]
def bX10_onPage_1 : List In := [(10, 6, 0, 1, 0, []), (11, 4, 0, 1, 1, []), (12, 79, 4202, 349, 2, [233, 10]), (15, 6, 0, 1, 0, []), (16, 39, 10, 0, 10, [117702656, 66, 2201]), (19, 4, 0, 1, 2, []), (20, 75, 4017, 225, 2, [74, 0]), (23, 55, 1, 0, 2, []), (26, 1, -1, 0, 0, []), (27, 60, 0, 0, 0, [])]
def bX10_onPage_2 : List In := [(28, 4, 0, 1, 3, []), (29, 59, 0, 3, 7, [3, 4, 5, 6])]
def bX10_onPage_3 : List In := [(60, 6, 0, 1, 0, []), (61, 39, 12, 0, 10, [134479928, 78, 2203]), (64, 40, 7, 0, 7, [839123425, 378, 2142]), (67, 4, 0, 1, 2, []), (68, 45, 0, 0, 0, []), (69, 60, 0, 0, 0, [])]
def bX10_onPage_4 : List In := [(70, 6, 0, 1, 0, []), (71, 39, 12, 0, 10, [134479928, 78, 2203]), (74, 4, 0, 1, 2, []), (75, 75, 5036, 381, 2, [66, 7]), (78, 60, 0, 0, 0, [])]
def bX10_onPage_5 : List In := [(79, 6, 0, 1, 0, []), (80, 39, 12, 0, 10, [134479928, 78, 2203]), (83, 4, 0, 1, 2, []), (84, 75, 5037, 384, 2, [65, 7]), (87, 60, 0, 0, 0, [])]
def bX10_onPage_6 : List In := [(88, 6, 0, 1, 0, []), (89, 39, 12, 0, 10, [134479928, 78, 2203]), (92, 4, 0, 1, 2, []), (93, 75, 5041, 387, 2, [67, 7]), (96, 60, 0, 0, 0, [])]
def bX10_onPage_7 : List In := [(97, 1, -2, 1, 0, []), (99, 60, 0, 0, 0, [])]
def BX10_onPage : List (List In) := [bX10_onPage_0, bX10_onPage_1, bX10_onPage_2, bX10_onPage_3, bX10_onPage_4, bX10_onPage_5, bX10_onPage_6, bX10_onPage_7]
set_option maxRecDepth 100000 in
theorem mkX10_onPage : MkB 244 BX10_onPage := MkB_of (by decide +kernel)
theorem lX10_onPage : (sgD 244).2.2.1 = 4 := rfl
theorem eX10_onPage_0 : BX10_onPage.getD 0 [] = bX10_onPage_0 := rfl
theorem eX10_onPage_1 : BX10_onPage.getD 1 [] = bX10_onPage_1 := rfl
theorem eX10_onPage_2 : BX10_onPage.getD 2 [] = bX10_onPage_2 := rfl
theorem eX10_onPage_3 : BX10_onPage.getD 3 [] = bX10_onPage_3 := rfl
theorem eX10_onPage_4 : BX10_onPage.getD 4 [] = bX10_onPage_4 := rfl
theorem eX10_onPage_5 : BX10_onPage.getD 5 [] = bX10_onPage_5 := rfl
theorem eX10_onPage_6 : BX10_onPage.getD 6 [] = bX10_onPage_6 := rfl
theorem eX10_onPage_7 : BX10_onPage.getD 7 [] = bX10_onPage_7 := rfl
def bX10_pages_0 : List In := [(0, 6, 0, 1, 0, []), (1, 4, 0, 1, 1, []), (2, 75, 4198, 346, 2, [18, 10]), (5, 55, 1, 0, 1, []), (8, 1, -1, 0, 0, []), (9, 60, 0, 0, 0, [])]
def bX10_pages_1 : List In := [(10, 4, 0, 1, 2, []), (11, 55, 2, 0, 2, []), (14, 4, 0, 1, 2, []), (15, 1, 5, 0, 0, []), (16, 56, 5, 0, 3, []), (19, 58, 0, 0, 2, [])]
def bX10_pages_2 : List In := [(19, 1, -2, 1, 0, []), (21, 60, 0, 0, 0, [])]
def bX10_pages_3 : List In := [(22, 6, 0, 1, 0, []), (23, 4, 0, 1, 1, []), (24, 79, 4202, 349, 2, [233, 10]), (27, 4, 0, 1, 2, []), (28, 59, 0, 4, 9, [4, 5, 6, 7, 8])]
def bX10_pages_4 : List In := [(64, 6, 0, 1, 0, []), (65, 39, 12, 0, 10, [134479928, 78, 2203]), (68, 40, 4, 0, 7, [168034344, 352, 2137]), (71, 75, 5028, 356, 1, [57, 5]), (74, 60, 0, 0, 0, [])]
def bX10_pages_5 : List In := [(75, 6, 0, 1, 0, []), (76, 39, 12, 0, 10, [134479928, 78, 2203]), (79, 37, 12, 0, 7, [362, 2150]), (82, 60, 0, 0, 0, [])]
def bX10_pages_6 : List In := [(83, 6, 0, 1, 0, []), (84, 39, 12, 0, 10, [134479928, 78, 2203]), (87, 37, 13, 0, 7, [365, 2152]), (90, 65, 4001, 209, 1, [13, 0]), (93, 60, 0, 0, 0, [])]
def bX10_pages_7 : List In := [(94, 6, 0, 1, 0, []), (95, 39, 12, 0, 10, [134479928, 78, 2203]), (98, 37, 14, 0, 7, [369, 2154]), (101, 60, 0, 0, 0, [])]
def bX10_pages_8 : List In := [(102, 6, 0, 1, 0, []), (103, 39, 12, 0, 10, [134479928, 78, 2203]), (106, 37, 15, 0, 7, [372, 2156]), (109, 60, 0, 0, 0, [])]
def bX10_pages_9 : List In := [(110, 6, 0, 1, 0, []), (111, 39, 12, 0, 10, [134479928, 78, 2203]), (114, 40, 4, 0, 7, [168034344, 352, 2137]), (117, 37, 3, 0, 5, [375, 2121]), (120, 60, 0, 0, 0, [])]
def BX10_pages : List (List In) := [bX10_pages_0, bX10_pages_1, bX10_pages_2, bX10_pages_3, bX10_pages_4, bX10_pages_5, bX10_pages_6, bX10_pages_7, bX10_pages_8, bX10_pages_9]
set_option maxRecDepth 100000 in
theorem mkX10_pages : MkB 245 BX10_pages := MkB_of (by decide +kernel)
theorem lX10_pages : (sgD 245).2.2.1 = 3 := rfl
theorem eX10_pages_0 : BX10_pages.getD 0 [] = bX10_pages_0 := rfl
theorem eX10_pages_1 : BX10_pages.getD 1 [] = bX10_pages_1 := rfl
theorem eX10_pages_2 : BX10_pages.getD 2 [] = bX10_pages_2 := rfl
theorem eX10_pages_3 : BX10_pages.getD 3 [] = bX10_pages_3 := rfl
theorem eX10_pages_4 : BX10_pages.getD 4 [] = bX10_pages_4 := rfl
theorem eX10_pages_5 : BX10_pages.getD 5 [] = bX10_pages_5 := rfl
theorem eX10_pages_6 : BX10_pages.getD 6 [] = bX10_pages_6 := rfl
theorem eX10_pages_7 : BX10_pages.getD 7 [] = bX10_pages_7 := rfl
theorem eX10_pages_8 : BX10_pages.getD 8 [] = bX10_pages_8 := rfl
theorem eX10_pages_9 : BX10_pages.getD 9 [] = bX10_pages_9 := rfl
def bX10_reach_0 : List In := [(0, 6, 0, 1, 0, []), (1, 4, 0, 1, 1, []), (2, 75, 4198, 346, 2, [18, 10]), (5, 55, 0, 0, 1, []), (8, 6, 0, 1, 0, []), (9, 4, 0, 1, 2, []), (10, 75, 3233, 203, 2, [83, 10]), (13, 55, 1, 0, 2, []), (16, 58, 0, 0, 1, [])]
def bX10_reach_1 : List In := [(16, 1, -1, 0, 0, []), (17, 60, 0, 0, 0, [])]
def bX10_reach_2 : List In := [(18, 4, 0, 1, 3, []), (19, 55, 2, 0, 3, []), (22, 4, 0, 1, 3, []), (23, 1, 4, 0, 0, []), (24, 56, 5, 0, 4, []), (27, 58, 0, 0, 3, [])]
def bX10_reach_3 : List In := [(27, 1, -2, 1, 0, []), (29, 60, 0, 0, 0, [])]
def bX10_reach_4 : List In := [(30, 6, 0, 1, 0, []), (31, 4, 0, 1, 1, []), (32, 79, 4202, 349, 2, [233, 10]), (35, 4, 0, 1, 3, []), (36, 1, 4, 0, 0, []), (37, 56, 1, 0, 5, []), (40, 6, 0, 1, 0, []), (41, 39, 7, 0, 10, [67239952, 41, 2198]), (44, 6, 0, 1, 0, []), (45, 39, 10, 0, 10, [117702656, 66, 2201]), (48, 75, 4093, 292, 2, [217, 2]), (51, 7, 0, 0, 4, []), (53, 6, 0, 1, 0, []), (54, 39, 7, 0, 10, [67239952, 41, 2198]), (57, 6, 0, 1, 0, []), (58, 4, 0, 1, 2, []), (59, 78, 3021, 107, 2, [202, 10]), (62, 75, 4093, 292, 2, [217, 2]), (65, 4, 0, 0, 4, []), (67, 1, -1, 0, 0, []), (68, 19, 0, 0, 0, []), (69, 17, 0, 0, 0, []), (70, 65, 5066, 403, 1, [1, 0]), (73, 60, 0, 0, 0, [])]
def bX10_reach_5 : List In := [(74, 6, 0, 1, 0, []), (75, 72, 13, 0, 10, [134479928, 82, 2204]), (78, 6, 0, 1, 0, []), (79, 4, 0, 1, 2, []), (80, 77, 3025, 267, 2, [23, 10]), (83, 6, 0, 1, 0, []), (84, 37, 5, 0, 10, [165, 2196]), (87, 6, 0, 1, 0, []), (88, 39, 9, 0, 10, [100794432, 57, 2200]), (91, 4, 0, 1, 1, []), (92, 79, 4206, 408, 5, [218, 7]), (95, 4, 0, 1, 3, []), (96, 59, 0, 2, 9, [6, 7, 8])]
def bX10_reach_6 : List In := [(124, 6, 0, 1, 0, []), (125, 75, 5072, 411, 1, [184, 10]), (128, 60, 0, 0, 0, [])]
def bX10_reach_7 : List In := [(129, 6, 0, 1, 0, []), (130, 75, 5084, 414, 1, [166, 10]), (133, 60, 0, 0, 0, [])]
def bX10_reach_8 : List In := [(134, 6, 0, 1, 0, []), (135, 75, 5093, 417, 1, [165, 10]), (138, 60, 0, 0, 0, [])]
def bX10_reach_9 : List In := [(139, 6, 0, 1, 0, []), (140, 75, 5097, 420, 1, [185, 10]), (143, 60, 0, 0, 0, [])]
def BX10_reach : List (List In) := [bX10_reach_0, bX10_reach_1, bX10_reach_2, bX10_reach_3, bX10_reach_4, bX10_reach_5, bX10_reach_6, bX10_reach_7, bX10_reach_8, bX10_reach_9]
set_option maxRecDepth 100000 in
theorem mkX10_reach : MkB 246 BX10_reach := MkB_of (by decide +kernel)
theorem lX10_reach : (sgD 246).2.2.1 = 5 := rfl
theorem eX10_reach_0 : BX10_reach.getD 0 [] = bX10_reach_0 := rfl
theorem eX10_reach_1 : BX10_reach.getD 1 [] = bX10_reach_1 := rfl
theorem eX10_reach_2 : BX10_reach.getD 2 [] = bX10_reach_2 := rfl
theorem eX10_reach_3 : BX10_reach.getD 3 [] = bX10_reach_3 := rfl
theorem eX10_reach_4 : BX10_reach.getD 4 [] = bX10_reach_4 := rfl
theorem eX10_reach_5 : BX10_reach.getD 5 [] = bX10_reach_5 := rfl
theorem eX10_reach_6 : BX10_reach.getD 6 [] = bX10_reach_6 := rfl
theorem eX10_reach_7 : BX10_reach.getD 7 [] = bX10_reach_7 := rfl
theorem eX10_reach_8 : BX10_reach.getD 8 [] = bX10_reach_8 := rfl
theorem eX10_reach_9 : BX10_reach.getD 9 [] = bX10_reach_9 := rfl
