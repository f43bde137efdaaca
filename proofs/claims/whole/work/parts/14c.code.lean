/-! the methods as blocks -/
def bX11_areAlike_0 : List In := [(0, 6, 0, 1, 0, []), (1, 39, 34, 0, 11, [1476526881, 102, 5151]), (4, 4, 0, 1, 1, []), (5, 45, 0, 0, 0, []), (6, 6, 0, 1, 0, []), (7, 39, 34, 0, 11, [1476526881, 102, 5151]), (10, 4, 0, 1, 2, []), (11, 45, 0, 0, 0, []), (12, 56, 1, 0, 1, []), (15, 1, 1, 0, 0, []), (16, 57, 0, 0, 2, [])]
def bX11_areAlike_1 : List In := [(19, 1, 0, 0, 0, []), (20, 58, 0, 0, 2, [])]
def bX11_areAlike_2 : List In := [(20, 61, 0, 0, 0, [])]
def BX11_areAlike : List (List In) := [bX11_areAlike_0, bX11_areAlike_1, bX11_areAlike_2]
set_option maxRecDepth 100000 in
theorem mkX11_areAlike : MkB 24 BX11_areAlike := MkB_of (by decide +kernel)
theorem lX11_areAlike : (sgD 24).2.2.1 = 3 := rfl
theorem eX11_areAlike_0 : BX11_areAlike.getD 0 [] = bX11_areAlike_0 := rfl
theorem eX11_areAlike_1 : BX11_areAlike.getD 1 [] = bX11_areAlike_1 := rfl
theorem eX11_areAlike_2 : BX11_areAlike.getD 2 [] = bX11_areAlike_2 := rfl
def bX11_canGo_0 : List In := [(0, 4, 0, 1, 1, []), (1, 1, -1, 0, 0, []), (2, 56, 0, 0, 1, []), (5, 6, 0, 1, 0, []), (6, 39, 18, 0, 11, [1224868322, 56, 5135]), (9, 4, 0, 1, 1, []), (10, 46, 0, 0, 0, []), (11, 55, 0, 0, 2, []), (14, 58, 0, 0, 1, [])]
def bX11_canGo_1 : List In := [(14, 1, 1, 0, 0, []), (15, 57, 0, 0, 3, [])]
def bX11_canGo_2 : List In := [(18, 1, 0, 0, 0, []), (19, 58, 0, 0, 3, [])]
def bX11_canGo_3 : List In := [(19, 61, 0, 0, 0, [])]
def BX11_canGo : List (List In) := [bX11_canGo_0, bX11_canGo_1, bX11_canGo_2, bX11_canGo_3]
set_option maxRecDepth 100000 in
theorem mkX11_canGo : MkB 25 BX11_canGo := MkB_of (by decide +kernel)
theorem lX11_canGo : (sgD 25).2.2.1 = 2 := rfl
theorem eX11_canGo_0 : BX11_canGo.getD 0 [] = bX11_canGo_0 := rfl
theorem eX11_canGo_1 : BX11_canGo.getD 1 [] = bX11_canGo_1 := rfl
theorem eX11_canGo_2 : BX11_canGo.getD 2 [] = bX11_canGo_2 := rfl
theorem eX11_canGo_3 : BX11_canGo.getD 3 [] = bX11_canGo_3 := rfl
def bX11_childrenOf_0 : List In := [(0, 1, 0, 0, 0, []), (1, 7, 0, 1, 2, []), (2, 6, 0, 1, 0, []), (3, 39, 21, 0, 11, [1275199977, 66, 5138]), (6, 4, 0, 1, 1, []), (7, 45, 0, 0, 0, []), (8, 7, 0, 1, 3, []), (9, 58, 0, 0, 1001, [])]
def bX11_childrenOf_1 : List In := [(9, 4, 0, 1, 3, []), (10, 55, 2, 0, 2, []), (13, 10, 1, 0, 2, []), (16, 6, 0, 1, 0, []), (17, 39, 22, 0, 11, [1291977185, 69, 5139]), (20, 4, 0, 1, 3, []), (21, 45, 0, 0, 0, []), (22, 7, 0, 1, 3, []), (23, 57, 0, 0, 1001, [])]
def bX11_childrenOf_2 : List In := [(26, 4, 0, 1, 2, []), (27, 60, 0, 0, 0, [])]
def BX11_childrenOf : List (List In) := [bX11_childrenOf_0, bX11_childrenOf_1, bX11_childrenOf_2]
set_option maxRecDepth 100000 in
theorem mkX11_childrenOf : MkB 26 BX11_childrenOf := MkB_of (by decide +kernel)
theorem lX11_childrenOf : (sgD 26).2.2.1 = 4 := rfl
theorem eX11_childrenOf_0 : BX11_childrenOf.getD 0 [] = bX11_childrenOf_0 := rfl
theorem eX11_childrenOf_1 : BX11_childrenOf.getD 1 [] = bX11_childrenOf_1 := rfl
theorem eX11_childrenOf_2 : BX11_childrenOf.getD 2 [] = bX11_childrenOf_2 := rfl
def bX11_clear_0 : List In := [(0, 1, 0, 0, 0, []), (1, 7, 0, 1, 1, []), (2, 58, 0, 0, 1001, [])]
def bX11_clear_1 : List In := [(2, 4, 0, 1, 1, []), (3, 1, 60, 1, 0, []), (5, 56, 3, 0, 2, []), (8, 6, 0, 1, 0, []), (9, 39, 18, 0, 11, [1224868322, 56, 5135]), (12, 4, 0, 1, 1, []), (13, 1, 0, 0, 0, []), (14, 51, 0, 0, 0, []), (15, 6, 0, 1, 0, []), (16, 39, 19, 0, 11, [1241645538, 60, 5136]), (19, 4, 0, 1, 1, []), (20, 1, 0, 0, 0, []), (21, 51, 0, 0, 0, []), (22, 6, 0, 1, 0, []), (23, 39, 24, 0, 11, [1325531617, 75, 5141]), (26, 4, 0, 1, 1, []), (27, 1, 0, 0, 0, []), (28, 50, 0, 0, 0, []), (29, 6, 0, 1, 0, []), (30, 39, 27, 0, 11, [1375863265, 84, 5144]), (33, 4, 0, 1, 1, []), (34, 1, 0, 0, 0, []), (35, 50, 0, 0, 0, []), (36, 6, 0, 1, 0, []), (37, 39, 28, 0, 11, [1392640481, 87, 5145]), (40, 4, 0, 1, 1, []), (41, 1, -1, 0, 0, []), (42, 50, 0, 0, 0, []), (43, 6, 0, 1, 0, []), (44, 39, 29, 0, 11, [1409417697, 90, 5146]), (47, 4, 0, 1, 1, []), (48, 1, -6, 1, 0, []), (50, 50, 0, 0, 0, []), (51, 10, 1, 0, 1, []), (54, 57, 0, 0, 1001, [])]
def bX11_clear_2 : List In := [(57, 1, 0, 0, 0, []), (58, 7, 0, 1, 1, []), (59, 58, 0, 0, 1003, [])]
def bX11_clear_3 : List In := [(59, 4, 0, 1, 1, []), (60, 1, 61, 1, 0, []), (62, 56, 3, 0, 4, []), (65, 6, 0, 1, 0, []), (66, 39, 21, 0, 11, [1275199977, 66, 5138]), (69, 4, 0, 1, 1, []), (70, 1, -1, 0, 0, []), (71, 50, 0, 0, 0, []), (72, 10, 1, 0, 1, []), (75, 57, 0, 0, 1003, [])]
def bX11_clear_4 : List In := [(78, 64, 0, 0, 0, [])]
def BX11_clear : List (List In) := [bX11_clear_0, bX11_clear_1, bX11_clear_2, bX11_clear_3, bX11_clear_4]
set_option maxRecDepth 100000 in
theorem mkX11_clear : MkB 27 BX11_clear := MkB_of (by decide +kernel)
theorem lX11_clear : (sgD 27).2.2.1 = 2 := rfl
theorem eX11_clear_0 : BX11_clear.getD 0 [] = bX11_clear_0 := rfl
theorem eX11_clear_1 : BX11_clear.getD 1 [] = bX11_clear_1 := rfl
theorem eX11_clear_2 : BX11_clear.getD 2 [] = bX11_clear_2 := rfl
theorem eX11_clear_3 : BX11_clear.getD 3 [] = bX11_clear_3 := rfl
theorem eX11_clear_4 : BX11_clear.getD 4 [] = bX11_clear_4 := rfl
def bX11_depth_0 : List In := [(0, 1, 0, 0, 0, []), (1, 7, 0, 1, 2, []), (2, 6, 0, 1, 0, []), (3, 39, 20, 0, 11, [1258422753, 63, 5137]), (6, 4, 0, 1, 1, []), (7, 45, 0, 0, 0, []), (8, 7, 0, 1, 3, []), (9, 58, 0, 0, 1001, [])]
def bX11_depth_1 : List In := [(9, 4, 0, 1, 3, []), (10, 55, 2, 0, 2, []), (13, 10, 1, 0, 2, []), (16, 6, 0, 1, 0, []), (17, 39, 20, 0, 11, [1258422753, 63, 5137]), (20, 4, 0, 1, 3, []), (21, 45, 0, 0, 0, []), (22, 7, 0, 1, 3, []), (23, 57, 0, 0, 1001, [])]
def bX11_depth_2 : List In := [(26, 4, 0, 1, 2, []), (27, 60, 0, 0, 0, [])]
def BX11_depth : List (List In) := [bX11_depth_0, bX11_depth_1, bX11_depth_2]
set_option maxRecDepth 100000 in
theorem mkX11_depth : MkB 28 BX11_depth := MkB_of (by decide +kernel)
theorem lX11_depth : (sgD 28).2.2.1 = 4 := rfl
theorem eX11_depth_0 : BX11_depth.getD 0 [] = bX11_depth_0 := rfl
theorem eX11_depth_1 : BX11_depth.getD 1 [] = bX11_depth_1 := rfl
theorem eX11_depth_2 : BX11_depth.getD 2 [] = bX11_depth_2 := rfl
def bX11_digitsOf_0 : List In := [(0, 4, 0, 1, 0, []), (1, 1, 10, 1, 0, []), (3, 56, 3, 0, 1, []), (6, 1, 1, 0, 0, []), (7, 57, 0, 0, 3, [])]
def bX11_digitsOf_1 : List In := [(10, 4, 0, 1, 0, []), (11, 1, 100, 1, 0, []), (13, 56, 3, 0, 2, []), (16, 1, 2, 0, 0, []), (17, 57, 0, 0, 3, [])]
def bX11_digitsOf_2 : List In := [(20, 1, 3, 0, 0, []), (21, 58, 0, 0, 3, [])]
def bX11_digitsOf_3 : List In := [(21, 60, 0, 0, 0, [])]
def BX11_digitsOf : List (List In) := [bX11_digitsOf_0, bX11_digitsOf_1, bX11_digitsOf_2, bX11_digitsOf_3]
set_option maxRecDepth 100000 in
theorem mkX11_digitsOf : MkB 29 BX11_digitsOf := MkB_of (by decide +kernel)
theorem lX11_digitsOf : (sgD 29).2.2.1 = 1 := rfl
theorem eX11_digitsOf_0 : BX11_digitsOf.getD 0 [] = bX11_digitsOf_0 := rfl
theorem eX11_digitsOf_1 : BX11_digitsOf.getD 1 [] = bX11_digitsOf_1 := rfl
theorem eX11_digitsOf_2 : BX11_digitsOf.getD 2 [] = bX11_digitsOf_2 := rfl
theorem eX11_digitsOf_3 : BX11_digitsOf.getD 3 [] = bX11_digitsOf_3 := rfl
def bX11_holder_0 : List In := [(0, 4, 0, 1, 0, []), (1, 1, -1, 0, 0, []), (2, 56, 1, 0, 1, []), (5, 1, 60, 1, 0, []), (7, 57, 0, 0, 2, [])]
def bX11_holder_1 : List In := [(10, 4, 0, 1, 0, []), (11, 58, 0, 0, 2, [])]
def bX11_holder_2 : List In := [(11, 60, 0, 0, 0, [])]
def BX11_holder : List (List In) := [bX11_holder_0, bX11_holder_1, bX11_holder_2]
set_option maxRecDepth 100000 in
theorem mkX11_holder : MkB 30 BX11_holder := MkB_of (by decide +kernel)
theorem lX11_holder : (sgD 30).2.2.1 = 1 := rfl
theorem eX11_holder_0 : BX11_holder.getD 0 [] = bX11_holder_0 := rfl
theorem eX11_holder_1 : BX11_holder.getD 1 [] = bX11_holder_1 := rfl
theorem eX11_holder_2 : BX11_holder.getD 2 [] = bX11_holder_2 := rfl
def bX11_in_0 : List In := [(0, 5, 0, 1, 0, []), (1, 5, 0, 1, 2, []), (2, 34, 0, 0, 0, []), (3, 55, 2, 0, 1, []), (6, 5, 0, 1, 0, []), (7, 5, 0, 0, 4, []), (9, 34, 0, 0, 0, []), (10, 55, 4, 0, 1, []), (13, 1, 1, 0, 0, []), (14, 57, 0, 0, 2, [])]
def bX11_in_1 : List In := [(17, 1, 0, 0, 0, []), (18, 58, 0, 0, 2, [])]
def bX11_in_2 : List In := [(18, 61, 0, 0, 0, [])]
def BX11_in : List (List In) := [bX11_in_0, bX11_in_1, bX11_in_2]
set_option maxRecDepth 100000 in
theorem mkX11_in : MkB 31 BX11_in := MkB_of (by decide +kernel)
theorem lX11_in : (sgD 31).2.2.1 = 6 := rfl
theorem eX11_in_0 : BX11_in.getD 0 [] = bX11_in_0 := rfl
theorem eX11_in_1 : BX11_in.getD 1 [] = bX11_in_1 := rfl
theorem eX11_in_2 : BX11_in.getD 2 [] = bX11_in_2 := rfl
def bX11_isAhead_0 : List In := [(0, 6, 0, 1, 0, []), (1, 39, 2, 0, 11, [1006764513, 16, 5119]), (4, 4, 0, 1, 1, []), (5, 45, 0, 0, 0, []), (6, 6, 0, 1, 0, []), (7, 39, 2, 0, 11, [1006764513, 16, 5119]), (10, 4, 0, 1, 2, []), (11, 45, 0, 0, 0, []), (12, 56, 2, 0, 1, []), (15, 6, 0, 1, 0, []), (16, 39, 2, 0, 11, [1006764513, 16, 5119]), (19, 4, 0, 1, 1, []), (20, 45, 0, 0, 0, []), (21, 6, 0, 1, 0, []), (22, 39, 2, 0, 11, [1006764513, 16, 5119]), (25, 4, 0, 1, 2, []), (26, 45, 0, 0, 0, []), (27, 56, 1, 0, 2, []), (30, 6, 0, 1, 0, []), (31, 39, 1, 0, 11, [989987297, 13, 5118]), (34, 4, 0, 1, 1, []), (35, 45, 0, 0, 0, []), (36, 6, 0, 1, 0, []), (37, 39, 1, 0, 11, [989987297, 13, 5118]), (40, 4, 0, 1, 2, []), (41, 45, 0, 0, 0, []), (42, 56, 3, 0, 2, []), (45, 58, 0, 0, 1, [])]
def bX11_isAhead_1 : List In := [(45, 1, 1, 0, 0, []), (46, 57, 0, 0, 3, [])]
def bX11_isAhead_2 : List In := [(49, 1, 0, 0, 0, []), (50, 58, 0, 0, 3, [])]
def bX11_isAhead_3 : List In := [(50, 61, 0, 0, 0, [])]
def BX11_isAhead : List (List In) := [bX11_isAhead_0, bX11_isAhead_1, bX11_isAhead_2, bX11_isAhead_3]
set_option maxRecDepth 100000 in
theorem mkX11_isAhead : MkB 32 BX11_isAhead := MkB_of (by decide +kernel)
theorem lX11_isAhead : (sgD 32).2.2.1 = 3 := rfl
theorem eX11_isAhead_0 : BX11_isAhead.getD 0 [] = bX11_isAhead_0 := rfl
theorem eX11_isAhead_1 : BX11_isAhead.getD 1 [] = bX11_isAhead_1 := rfl
theorem eX11_isAhead_2 : BX11_isAhead.getD 2 [] = bX11_isAhead_2 := rfl
theorem eX11_isAhead_3 : BX11_isAhead.getD 3 [] = bX11_isAhead_3 := rfl
def bX11_isAsWas_0 : List In := [(0, 1, 1, 0, 0, []), (1, 7, 0, 1, 2, []), (2, 1, 0, 0, 0, []), (3, 7, 0, 1, 3, []), (4, 58, 0, 0, 1001, [])]
def bX11_isAsWas_1 : List In := [(4, 4, 0, 1, 3, []), (5, 6, 0, 1, 0, []), (6, 37, 33, 0, 11, [259, 5150]), (9, 56, 3, 0, 4, []), (12, 4, 0, 1, 2, []), (13, 55, 0, 0, 4, []), (16, 6, 0, 1, 0, []), (17, 39, 64, 0, 11, [1862403009, 171, 5181]), (20, 1, 60, 1, 0, []), (22, 4, 0, 1, 1, []), (23, 13, 0, 0, 0, []), (24, 6, 0, 1, 0, []), (25, 39, 32, 0, 11, [1459749345, 99, 5149]), (28, 4, 0, 1, 3, []), (29, 45, 0, 0, 0, []), (30, 11, 0, 0, 0, []), (31, 45, 0, 0, 0, []), (32, 6, 0, 1, 0, []), (33, 39, 70, 0, 11, [1963065825, 189, 5187]), (36, 6, 0, 1, 0, []), (37, 39, 32, 0, 11, [1459749345, 99, 5149]), (40, 4, 0, 1, 3, []), (41, 45, 0, 0, 0, []), (42, 45, 0, 0, 0, []), (43, 56, 1, 0, 2, []), (46, 1, 1, 0, 0, []), (47, 57, 0, 0, 3, [])]
def bX11_isAsWas_2 : List In := [(50, 1, 0, 0, 0, []), (51, 58, 0, 0, 3, [])]
def bX11_isAsWas_3 : List In := [(51, 7, 0, 1, 2, []), (52, 10, 1, 0, 3, []), (55, 57, 0, 0, 1001, [])]
def bX11_isAsWas_4 : List In := [(58, 4, 0, 1, 2, []), (59, 61, 0, 0, 0, [])]
def BX11_isAsWas : List (List In) := [bX11_isAsWas_0, bX11_isAsWas_1, bX11_isAsWas_2, bX11_isAsWas_3, bX11_isAsWas_4]
set_option maxRecDepth 100000 in
theorem mkX11_isAsWas : MkB 33 BX11_isAsWas := MkB_of (by decide +kernel)
theorem lX11_isAsWas : (sgD 33).2.2.1 = 4 := rfl
theorem eX11_isAsWas_0 : BX11_isAsWas.getD 0 [] = bX11_isAsWas_0 := rfl
theorem eX11_isAsWas_1 : BX11_isAsWas.getD 1 [] = bX11_isAsWas_1 := rfl
theorem eX11_isAsWas_2 : BX11_isAsWas.getD 2 [] = bX11_isAsWas_2 := rfl
theorem eX11_isAsWas_3 : BX11_isAsWas.getD 3 [] = bX11_isAsWas_3 := rfl
theorem eX11_isAsWas_4 : BX11_isAsWas.getD 4 [] = bX11_isAsWas_4 := rfl
def bX11_isElsewhere_0 : List In := [(0, 6, 0, 1, 0, []), (1, 39, 61, 0, 11, [1812071362, 162, 5178]), (4, 4, 0, 1, 1, []), (5, 46, 0, 0, 0, []), (6, 6, 0, 1, 0, []), (7, 39, 61, 0, 11, [1812071362, 162, 5178]), (10, 1, 60, 1, 0, []), (12, 4, 0, 1, 1, []), (13, 11, 0, 0, 0, []), (14, 46, 0, 0, 0, []), (15, 56, 1, 0, 1, []), (18, 6, 0, 1, 0, []), (19, 39, 61, 0, 11, [1812071362, 162, 5178]), (22, 4, 0, 1, 1, []), (23, 46, 0, 0, 0, []), (24, 55, 0, 0, 2, []), (27, 6, 0, 1, 0, []), (28, 39, 64, 0, 11, [1862403009, 171, 5181]), (31, 4, 0, 1, 1, []), (32, 45, 0, 0, 0, []), (33, 6, 0, 1, 0, []), (34, 39, 64, 0, 11, [1862403009, 171, 5181]), (37, 1, 60, 1, 0, []), (39, 4, 0, 1, 1, []), (40, 11, 0, 0, 0, []), (41, 45, 0, 0, 0, []), (42, 56, 0, 0, 2, []), (45, 58, 0, 0, 1, [])]
def bX11_isElsewhere_1 : List In := [(45, 1, 1, 0, 0, []), (46, 57, 0, 0, 3, [])]
def bX11_isElsewhere_2 : List In := [(49, 1, 0, 0, 0, []), (50, 58, 0, 0, 3, [])]
def bX11_isElsewhere_3 : List In := [(50, 61, 0, 0, 0, [])]
def BX11_isElsewhere : List (List In) := [bX11_isElsewhere_0, bX11_isElsewhere_1, bX11_isElsewhere_2, bX11_isElsewhere_3]
set_option maxRecDepth 100000 in
theorem mkX11_isElsewhere : MkB 34 BX11_isElsewhere := MkB_of (by decide +kernel)
theorem lX11_isElsewhere : (sgD 34).2.2.1 = 2 := rfl
theorem eX11_isElsewhere_0 : BX11_isElsewhere.getD 0 [] = bX11_isElsewhere_0 := rfl
theorem eX11_isElsewhere_1 : BX11_isElsewhere.getD 1 [] = bX11_isElsewhere_1 := rfl
theorem eX11_isElsewhere_2 : BX11_isElsewhere.getD 2 [] = bX11_isElsewhere_2 := rfl
theorem eX11_isElsewhere_3 : BX11_isElsewhere.getD 3 [] = bX11_isElsewhere_3 := rfl
def bX11_isIn_0 : List In := [(0, 5, 0, 1, 0, []), (1, 4, 0, 1, 2, []), (2, 30, 0, 0, 0, []), (3, 2, 1, 0, 1, []), (4, 26, 0, 0, 0, []), (5, 2, 1, 0, 1, []), (6, 34, 0, 0, 0, []), (7, 55, 1, 0, 1, []), (10, 1, 1, 0, 0, []), (11, 57, 0, 0, 2, [])]
def bX11_isIn_1 : List In := [(14, 1, 0, 0, 0, []), (15, 58, 0, 0, 2, [])]
def bX11_isIn_2 : List In := [(15, 61, 0, 0, 0, [])]
def BX11_isIn : List (List In) := [bX11_isIn_0, bX11_isIn_1, bX11_isIn_2]
set_option maxRecDepth 100000 in
theorem mkX11_isIn : MkB 35 BX11_isIn := MkB_of (by decide +kernel)
theorem lX11_isIn : (sgD 35).2.2.1 = 3 := rfl
theorem eX11_isIn_0 : BX11_isIn.getD 0 [] = bX11_isIn_0 := rfl
theorem eX11_isIn_1 : BX11_isIn.getD 1 [] = bX11_isIn_1 := rfl
theorem eX11_isIn_2 : BX11_isIn.getD 2 [] = bX11_isIn_2 := rfl
def bX11_isSaidOn_0 : List In := [(0, 1, 0, 0, 0, []), (1, 7, 0, 1, 3, []), (2, 58, 0, 0, 1001, [])]
def bX11_isSaidOn_1 : List In := [(2, 4, 0, 1, 3, []), (3, 6, 0, 1, 0, []), (4, 37, 33, 0, 11, [259, 5150]), (7, 56, 3, 0, 7, []), (10, 6, 0, 1, 0, []), (11, 39, 32, 0, 11, [1459749345, 99, 5149]), (14, 4, 0, 1, 3, []), (15, 45, 0, 0, 0, []), (16, 7, 0, 0, 4, []), (18, 1, 0, 0, 0, []), (19, 7, 0, 0, 5, []), (21, 1, 0, 0, 0, []), (22, 7, 0, 0, 6, []), (24, 58, 0, 0, 1002, [])]
def bX11_isSaidOn_2 : List In := [(24, 4, 0, 0, 6, []), (26, 6, 0, 1, 0, []), (27, 39, 66, 0, 11, [1895957441, 177, 5183]), (30, 4, 0, 0, 4, []), (32, 45, 0, 0, 0, []), (33, 56, 3, 0, 6, []), (36, 6, 0, 1, 0, []), (37, 39, 6, 0, 11, [1073873377, 28, 5123]), (40, 4, 0, 0, 4, []), (42, 45, 0, 0, 0, []), (43, 1, 1, 0, 0, []), (44, 56, 1, 0, 6, []), (47, 1, 0, 0, 0, []), (48, 7, 0, 0, 7, []), (50, 58, 0, 0, 1003, [])]
def bX11_isSaidOn_3 : List In := [(50, 4, 0, 0, 7, []), (52, 6, 0, 1, 0, []), (53, 39, 67, 0, 11, [1912743297, 180, 5184]), (56, 1, 10, 1, 0, []), (58, 4, 0, 0, 4, []), (60, 13, 0, 0, 0, []), (61, 4, 0, 0, 6, []), (63, 11, 0, 0, 0, []), (64, 45, 0, 0, 0, []), (65, 56, 3, 0, 5, []), (68, 4, 0, 0, 5, []), (70, 6, 0, 1, 0, []), (71, 39, 62, 0, 11, [1828848577, 165, 5179]), (74, 4, 0, 0, 4, []), (76, 45, 0, 0, 0, []), (77, 56, 3, 0, 4, []), (80, 6, 0, 1, 0, []), (81, 39, 63, 0, 11, [1845632513, 168, 5180]), (84, 1, 8, 1, 0, []), (86, 4, 0, 0, 4, []), (88, 13, 0, 0, 0, []), (89, 4, 0, 0, 5, []), (91, 11, 0, 0, 0, []), (92, 45, 0, 0, 0, []), (93, 4, 0, 1, 1, []), (94, 56, 1, 0, 4, []), (97, 6, 0, 1, 0, []), (98, 39, 68, 0, 11, [1929520513, 183, 5185]), (101, 1, 10, 1, 0, []), (103, 4, 0, 0, 4, []), (105, 13, 0, 0, 0, []), (106, 4, 0, 0, 6, []), (108, 11, 0, 0, 0, []), (109, 45, 0, 0, 0, []), (110, 4, 0, 1, 2, []), (111, 56, 1, 0, 4, []), (114, 1, 1, 0, 0, []), (115, 61, 0, 0, 0, [])]
def bX11_isSaidOn_4 : List In := [(116, 10, 1, 0, 5, []), (119, 10, 1, 0, 7, []), (122, 57, 0, 0, 1003, [])]
def bX11_isSaidOn_5 : List In := [(125, 10, 1, 0, 6, []), (128, 57, 0, 0, 1002, [])]
def bX11_isSaidOn_6 : List In := [(131, 10, 1, 0, 3, []), (134, 57, 0, 0, 1001, [])]
def bX11_isSaidOn_7 : List In := [(137, 1, 0, 0, 0, []), (138, 61, 0, 0, 0, [])]
def BX11_isSaidOn : List (List In) := [bX11_isSaidOn_0, bX11_isSaidOn_1, bX11_isSaidOn_2, bX11_isSaidOn_3, bX11_isSaidOn_4, bX11_isSaidOn_5, bX11_isSaidOn_6, bX11_isSaidOn_7]
set_option maxRecDepth 100000 in
theorem mkX11_isSaidOn : MkB 36 BX11_isSaidOn := MkB_of (by decide +kernel)
theorem lX11_isSaidOn : (sgD 36).2.2.1 = 8 := rfl
theorem eX11_isSaidOn_0 : BX11_isSaidOn.getD 0 [] = bX11_isSaidOn_0 := rfl
theorem eX11_isSaidOn_1 : BX11_isSaidOn.getD 1 [] = bX11_isSaidOn_1 := rfl
theorem eX11_isSaidOn_2 : BX11_isSaidOn.getD 2 [] = bX11_isSaidOn_2 := rfl
theorem eX11_isSaidOn_3 : BX11_isSaidOn.getD 3 [] = bX11_isSaidOn_3 := rfl
theorem eX11_isSaidOn_4 : BX11_isSaidOn.getD 4 [] = bX11_isSaidOn_4 := rfl
theorem eX11_isSaidOn_5 : BX11_isSaidOn.getD 5 [] = bX11_isSaidOn_5 := rfl
theorem eX11_isSaidOn_6 : BX11_isSaidOn.getD 6 [] = bX11_isSaidOn_6 := rfl
theorem eX11_isSaidOn_7 : BX11_isSaidOn.getD 7 [] = bX11_isSaidOn_7 := rfl
def bX11_isSaidOtherwise_0 : List In := [(0, 6, 0, 1, 0, []), (1, 39, 62, 0, 11, [1828848577, 165, 5179]), (4, 4, 0, 1, 1, []), (5, 45, 0, 0, 0, []), (6, 6, 0, 1, 0, []), (7, 39, 62, 0, 11, [1828848577, 165, 5179]), (10, 1, 60, 1, 0, []), (12, 4, 0, 1, 1, []), (13, 11, 0, 0, 0, []), (14, 45, 0, 0, 0, []), (15, 56, 1, 0, 1, []), (18, 1, 1, 0, 0, []), (19, 57, 0, 0, 2, [])]
def bX11_isSaidOtherwise_1 : List In := [(22, 1, 0, 0, 0, []), (23, 58, 0, 0, 2, [])]
def bX11_isSaidOtherwise_2 : List In := [(23, 7, 0, 1, 2, []), (24, 1, 0, 0, 0, []), (25, 7, 0, 1, 3, []), (26, 58, 0, 0, 1003, [])]
def bX11_isSaidOtherwise_3 : List In := [(26, 4, 0, 1, 3, []), (27, 6, 0, 1, 0, []), (28, 39, 62, 0, 11, [1828848577, 165, 5179]), (31, 4, 0, 1, 1, []), (32, 45, 0, 0, 0, []), (33, 56, 3, 0, 6, []), (36, 4, 0, 1, 2, []), (37, 55, 0, 0, 6, []), (40, 6, 0, 1, 0, []), (41, 39, 63, 0, 11, [1845632513, 168, 5180]), (44, 1, 8, 1, 0, []), (46, 4, 0, 1, 1, []), (47, 13, 0, 0, 0, []), (48, 4, 0, 1, 3, []), (49, 11, 0, 0, 0, []), (50, 45, 0, 0, 0, []), (51, 6, 0, 1, 0, []), (52, 39, 63, 0, 11, [1845632513, 168, 5180]), (55, 1, 8, 1, 0, []), (57, 1, 60, 1, 0, []), (59, 4, 0, 1, 1, []), (60, 11, 0, 0, 0, []), (61, 13, 0, 0, 0, []), (62, 4, 0, 1, 3, []), (63, 11, 0, 0, 0, []), (64, 45, 0, 0, 0, []), (65, 56, 1, 0, 4, []), (68, 1, 1, 0, 0, []), (69, 57, 0, 0, 5, [])]
def bX11_isSaidOtherwise_4 : List In := [(72, 1, 0, 0, 0, []), (73, 58, 0, 0, 5, [])]
def bX11_isSaidOtherwise_5 : List In := [(73, 7, 0, 1, 2, []), (74, 10, 1, 0, 3, []), (77, 57, 0, 0, 1003, [])]
def bX11_isSaidOtherwise_6 : List In := [(80, 4, 0, 1, 2, []), (81, 55, 1, 0, 7, []), (84, 1, 1, 0, 0, []), (85, 57, 0, 0, 8, [])]
def bX11_isSaidOtherwise_7 : List In := [(88, 1, 0, 0, 0, []), (89, 58, 0, 0, 8, [])]
def bX11_isSaidOtherwise_8 : List In := [(89, 61, 0, 0, 0, [])]
def BX11_isSaidOtherwise : List (List In) := [bX11_isSaidOtherwise_0, bX11_isSaidOtherwise_1, bX11_isSaidOtherwise_2, bX11_isSaidOtherwise_3, bX11_isSaidOtherwise_4, bX11_isSaidOtherwise_5, bX11_isSaidOtherwise_6, bX11_isSaidOtherwise_7, bX11_isSaidOtherwise_8]
set_option maxRecDepth 100000 in
theorem mkX11_isSaidOtherwise : MkB 37 BX11_isSaidOtherwise := MkB_of (by decide +kernel)
theorem lX11_isSaidOtherwise : (sgD 37).2.2.1 = 4 := rfl
theorem eX11_isSaidOtherwise_0 : BX11_isSaidOtherwise.getD 0 [] = bX11_isSaidOtherwise_0 := rfl
theorem eX11_isSaidOtherwise_1 : BX11_isSaidOtherwise.getD 1 [] = bX11_isSaidOtherwise_1 := rfl
theorem eX11_isSaidOtherwise_2 : BX11_isSaidOtherwise.getD 2 [] = bX11_isSaidOtherwise_2 := rfl
theorem eX11_isSaidOtherwise_3 : BX11_isSaidOtherwise.getD 3 [] = bX11_isSaidOtherwise_3 := rfl
theorem eX11_isSaidOtherwise_4 : BX11_isSaidOtherwise.getD 4 [] = bX11_isSaidOtherwise_4 := rfl
theorem eX11_isSaidOtherwise_5 : BX11_isSaidOtherwise.getD 5 [] = bX11_isSaidOtherwise_5 := rfl
theorem eX11_isSaidOtherwise_6 : BX11_isSaidOtherwise.getD 6 [] = bX11_isSaidOtherwise_6 := rfl
theorem eX11_isSaidOtherwise_7 : BX11_isSaidOtherwise.getD 7 [] = bX11_isSaidOtherwise_7 := rfl
theorem eX11_isSaidOtherwise_8 : BX11_isSaidOtherwise.getD 8 [] = bX11_isSaidOtherwise_8 := rfl
def bX11_isSeen_0 : List In := [(0, 6, 0, 1, 0, []), (1, 39, 18, 0, 11, [1224868322, 56, 5135]), (4, 4, 0, 1, 1, []), (5, 46, 0, 0, 0, []), (6, 55, 1, 0, 1, []), (9, 1, 0, 0, 0, []), (10, 61, 0, 0, 0, [])]
def bX11_isSeen_1 : List In := [(11, 4, 0, 1, 1, []), (12, 7, 0, 1, 2, []), (13, 58, 0, 0, 1002, [])]
def bX11_isSeen_2 : List In := [(13, 4, 0, 1, 2, []), (14, 55, 2, 0, 4, []), (17, 6, 0, 1, 0, []), (18, 39, 19, 0, 11, [1241645538, 60, 5136]), (21, 4, 0, 1, 2, []), (22, 46, 0, 0, 0, []), (23, 55, 0, 0, 3, []), (26, 1, 0, 0, 0, []), (27, 61, 0, 0, 0, [])]
def bX11_isSeen_3 : List In := [(28, 6, 0, 1, 0, []), (29, 39, 20, 0, 11, [1258422753, 63, 5137]), (32, 4, 0, 1, 2, []), (33, 45, 0, 0, 0, []), (34, 7, 0, 1, 2, []), (35, 57, 0, 0, 1002, [])]
def bX11_isSeen_4 : List In := [(38, 1, 1, 0, 0, []), (39, 61, 0, 0, 0, [])]
def BX11_isSeen : List (List In) := [bX11_isSeen_0, bX11_isSeen_1, bX11_isSeen_2, bX11_isSeen_3, bX11_isSeen_4]
set_option maxRecDepth 100000 in
theorem mkX11_isSeen : MkB 38 BX11_isSeen := MkB_of (by decide +kernel)
theorem lX11_isSeen : (sgD 38).2.2.1 = 3 := rfl
theorem eX11_isSeen_0 : BX11_isSeen.getD 0 [] = bX11_isSeen_0 := rfl
theorem eX11_isSeen_1 : BX11_isSeen.getD 1 [] = bX11_isSeen_1 := rfl
theorem eX11_isSeen_2 : BX11_isSeen.getD 2 [] = bX11_isSeen_2 := rfl
theorem eX11_isSeen_3 : BX11_isSeen.getD 3 [] = bX11_isSeen_3 := rfl
theorem eX11_isSeen_4 : BX11_isSeen.getD 4 [] = bX11_isSeen_4 := rfl
def bX11_isWithin_0 : List In := [(0, 4, 0, 1, 1, []), (1, 7, 0, 1, 3, []), (2, 58, 0, 0, 1001, [])]
def bX11_isWithin_1 : List In := [(2, 4, 0, 1, 3, []), (3, 55, 2, 0, 3, []), (6, 4, 0, 1, 3, []), (7, 4, 0, 1, 2, []), (8, 56, 1, 0, 2, []), (11, 1, 1, 0, 0, []), (12, 61, 0, 0, 0, [])]
def bX11_isWithin_2 : List In := [(13, 6, 0, 1, 0, []), (14, 39, 20, 0, 11, [1258422753, 63, 5137]), (17, 4, 0, 1, 3, []), (18, 45, 0, 0, 0, []), (19, 7, 0, 1, 3, []), (20, 57, 0, 0, 1001, [])]
def bX11_isWithin_3 : List In := [(23, 1, 0, 0, 0, []), (24, 61, 0, 0, 0, [])]
def BX11_isWithin : List (List In) := [bX11_isWithin_0, bX11_isWithin_1, bX11_isWithin_2, bX11_isWithin_3]
set_option maxRecDepth 100000 in
theorem mkX11_isWithin : MkB 39 BX11_isWithin := MkB_of (by decide +kernel)
theorem lX11_isWithin : (sgD 39).2.2.1 = 4 := rfl
theorem eX11_isWithin_0 : BX11_isWithin.getD 0 [] = bX11_isWithin_0 := rfl
theorem eX11_isWithin_1 : BX11_isWithin.getD 1 [] = bX11_isWithin_1 := rfl
theorem eX11_isWithin_2 : BX11_isWithin.getD 2 [] = bX11_isWithin_2 := rfl
theorem eX11_isWithin_3 : BX11_isWithin.getD 3 [] = bX11_isWithin_3 := rfl
def bX11_lesser_0 : List In := [(0, 4, 0, 1, 0, []), (1, 4, 0, 1, 1, []), (2, 56, 3, 0, 1, []), (5, 4, 0, 1, 0, []), (6, 57, 0, 0, 2, [])]
def bX11_lesser_1 : List In := [(9, 4, 0, 1, 1, []), (10, 58, 0, 0, 2, [])]
def bX11_lesser_2 : List In := [(10, 60, 0, 0, 0, [])]
def BX11_lesser : List (List In) := [bX11_lesser_0, bX11_lesser_1, bX11_lesser_2]
set_option maxRecDepth 100000 in
theorem mkX11_lesser : MkB 40 BX11_lesser := MkB_of (by decide +kernel)
theorem lX11_lesser : (sgD 40).2.2.1 = 2 := rfl
theorem eX11_lesser_0 : BX11_lesser.getD 0 [] = bX11_lesser_0 := rfl
theorem eX11_lesser_1 : BX11_lesser.getD 1 [] = bX11_lesser_1 := rfl
theorem eX11_lesser_2 : BX11_lesser.getD 2 [] = bX11_lesser_2 := rfl
def bX11_oftenIn_0 : List In := [(0, 1, 0, 0, 0, []), (1, 7, 0, 0, 4, []), (3, 1, 0, 0, 0, []), (4, 7, 0, 0, 5, []), (6, 58, 0, 0, 1001, [])]
def bX11_oftenIn_1 : List In := [(6, 4, 0, 0, 5, []), (8, 6, 0, 1, 0, []), (9, 39, 48, 0, 11, [1644298625, 132, 5165]), (12, 1, 2, 0, 0, []), (13, 4, 0, 1, 1, []), (14, 13, 0, 0, 0, []), (15, 4, 0, 1, 2, []), (16, 11, 0, 0, 0, []), (17, 45, 0, 0, 0, []), (18, 56, 3, 0, 4, []), (21, 4, 0, 0, 4, []), (23, 6, 0, 1, 0, []), (24, 39, 49, 0, 11, [1661078529, 135, 5166]), (27, 1, 16, 1, 0, []), (29, 4, 0, 1, 1, []), (30, 13, 0, 0, 0, []), (31, 1, 8, 1, 0, []), (33, 4, 0, 1, 2, []), (34, 13, 0, 0, 0, []), (35, 11, 0, 0, 0, []), (36, 4, 0, 0, 5, []), (38, 11, 0, 0, 0, []), (39, 45, 0, 0, 0, []), (40, 4, 0, 1, 3, []), (41, 56, 1, 0, 2, []), (44, 1, 1, 0, 0, []), (45, 57, 0, 0, 3, [])]
def bX11_oftenIn_2 : List In := [(48, 1, 0, 0, 0, []), (49, 58, 0, 0, 3, [])]
def bX11_oftenIn_3 : List In := [(49, 11, 0, 0, 0, []), (50, 7, 0, 0, 4, []), (52, 10, 1, 0, 5, []), (55, 57, 0, 0, 1001, [])]
def bX11_oftenIn_4 : List In := [(58, 4, 0, 0, 4, []), (60, 60, 0, 0, 0, [])]
def BX11_oftenIn : List (List In) := [bX11_oftenIn_0, bX11_oftenIn_1, bX11_oftenIn_2, bX11_oftenIn_3, bX11_oftenIn_4]
set_option maxRecDepth 100000 in
theorem mkX11_oftenIn : MkB 41 BX11_oftenIn := MkB_of (by decide +kernel)
theorem lX11_oftenIn : (sgD 41).2.2.1 = 6 := rfl
theorem eX11_oftenIn_0 : BX11_oftenIn.getD 0 [] = bX11_oftenIn_0 := rfl
theorem eX11_oftenIn_1 : BX11_oftenIn.getD 1 [] = bX11_oftenIn_1 := rfl
theorem eX11_oftenIn_2 : BX11_oftenIn.getD 2 [] = bX11_oftenIn_2 := rfl
theorem eX11_oftenIn_3 : BX11_oftenIn.getD 3 [] = bX11_oftenIn_3 := rfl
theorem eX11_oftenIn_4 : BX11_oftenIn.getD 4 [] = bX11_oftenIn_4 := rfl
def bX11_outdoes_0 : List In := [(0, 6, 0, 1, 0, []), (1, 39, 0, 0, 11, [973210081, 7, 5117]), (4, 4, 0, 1, 2, []), (5, 45, 0, 0, 0, []), (6, 7, 0, 1, 3, []), (7, 6, 0, 1, 0, []), (8, 39, 0, 0, 11, [973210081, 7, 5117]), (11, 4, 0, 1, 1, []), (12, 45, 0, 0, 0, []), (13, 1, 1, 0, 0, []), (14, 56, 1, 0, 4, []), (17, 4, 0, 1, 3, []), (18, 1, 1, 0, 0, []), (19, 56, 0, 0, 1, []), (22, 4, 0, 1, 3, []), (23, 1, 6, 1, 0, []), (25, 56, 0, 0, 1, []), (28, 6, 0, 1, 0, []), (29, 37, 16, 0, 11, [239, 5133]), (32, 55, 1, 0, 2, []), (35, 6, 0, 1, 0, []), (36, 39, 29, 0, 11, [1409417697, 90, 5146]), (39, 4, 0, 1, 2, []), (40, 45, 0, 0, 0, []), (41, 55, 1, 0, 2, []), (44, 4, 0, 1, 3, []), (45, 1, 2, 0, 0, []), (46, 56, 0, 0, 1, []), (49, 4, 0, 1, 3, []), (50, 1, 3, 0, 0, []), (51, 56, 1, 0, 2, []), (54, 58, 0, 0, 1, [])]
def bX11_outdoes_1 : List In := [(54, 1, 1, 0, 0, []), (55, 57, 0, 0, 3, [])]
def bX11_outdoes_2 : List In := [(58, 1, 0, 0, 0, []), (59, 58, 0, 0, 3, [])]
def bX11_outdoes_3 : List In := [(59, 61, 0, 0, 0, [])]
def bX11_outdoes_4 : List In := [(60, 4, 0, 1, 3, []), (61, 6, 0, 1, 0, []), (62, 39, 0, 0, 11, [973210081, 7, 5117]), (65, 4, 0, 1, 1, []), (66, 45, 0, 0, 0, []), (67, 56, 1, 0, 5, []), (70, 6, 0, 1, 0, []), (71, 39, 29, 0, 11, [1409417697, 90, 5146]), (74, 4, 0, 1, 2, []), (75, 45, 0, 0, 0, []), (76, 55, 1, 0, 5, []), (79, 1, 1, 0, 0, []), (80, 57, 0, 0, 6, [])]
def bX11_outdoes_5 : List In := [(83, 1, 0, 0, 0, []), (84, 58, 0, 0, 6, [])]
def bX11_outdoes_6 : List In := [(84, 61, 0, 0, 0, [])]
def BX11_outdoes : List (List In) := [bX11_outdoes_0, bX11_outdoes_1, bX11_outdoes_2, bX11_outdoes_3, bX11_outdoes_4, bX11_outdoes_5, bX11_outdoes_6]
set_option maxRecDepth 100000 in
theorem mkX11_outdoes : MkB 42 BX11_outdoes := MkB_of (by decide +kernel)
theorem lX11_outdoes : (sgD 42).2.2.1 = 4 := rfl
theorem eX11_outdoes_0 : BX11_outdoes.getD 0 [] = bX11_outdoes_0 := rfl
theorem eX11_outdoes_1 : BX11_outdoes.getD 1 [] = bX11_outdoes_1 := rfl
theorem eX11_outdoes_2 : BX11_outdoes.getD 2 [] = bX11_outdoes_2 := rfl
theorem eX11_outdoes_3 : BX11_outdoes.getD 3 [] = bX11_outdoes_3 := rfl
theorem eX11_outdoes_4 : BX11_outdoes.getD 4 [] = bX11_outdoes_4 := rfl
theorem eX11_outdoes_5 : BX11_outdoes.getD 5 [] = bX11_outdoes_5 := rfl
theorem eX11_outdoes_6 : BX11_outdoes.getD 6 [] = bX11_outdoes_6 := rfl
def bX11_pairOf_0 : List In := [(0, 1, -1, 0, 0, []), (1, 7, 0, 1, 3, []), (2, 1, 0, 0, 0, []), (3, 7, 0, 0, 4, []), (5, 58, 0, 0, 1001, [])]
def bX11_pairOf_1 : List In := [(5, 4, 0, 0, 4, []), (7, 6, 0, 1, 0, []), (8, 37, 50, 0, 11, [371, 5167]), (11, 56, 3, 0, 4, []), (14, 6, 0, 1, 0, []), (15, 39, 47, 0, 11, [1627521217, 129, 5164]), (18, 4, 0, 0, 4, []), (20, 45, 0, 0, 0, []), (21, 4, 0, 1, 1, []), (22, 56, 1, 0, 2, []), (25, 6, 0, 1, 0, []), (26, 39, 46, 0, 11, [1610744001, 126, 5163]), (29, 4, 0, 0, 4, []), (31, 45, 0, 0, 0, []), (32, 4, 0, 1, 2, []), (33, 56, 1, 0, 2, []), (36, 4, 0, 0, 4, []), (38, 57, 0, 0, 3, [])]
def bX11_pairOf_2 : List In := [(41, 4, 0, 1, 3, []), (42, 58, 0, 0, 3, [])]
def bX11_pairOf_3 : List In := [(42, 7, 0, 1, 3, []), (43, 10, 1, 0, 4, []), (46, 57, 0, 0, 1001, [])]
def bX11_pairOf_4 : List In := [(49, 4, 0, 1, 3, []), (50, 60, 0, 0, 0, [])]
def BX11_pairOf : List (List In) := [bX11_pairOf_0, bX11_pairOf_1, bX11_pairOf_2, bX11_pairOf_3, bX11_pairOf_4]
set_option maxRecDepth 100000 in
theorem mkX11_pairOf : MkB 43 BX11_pairOf := MkB_of (by decide +kernel)
theorem lX11_pairOf : (sgD 43).2.2.1 = 5 := rfl
theorem eX11_pairOf_0 : BX11_pairOf.getD 0 [] = bX11_pairOf_0 := rfl
theorem eX11_pairOf_1 : BX11_pairOf.getD 1 [] = bX11_pairOf_1 := rfl
theorem eX11_pairOf_2 : BX11_pairOf.getD 2 [] = bX11_pairOf_2 := rfl
theorem eX11_pairOf_3 : BX11_pairOf.getD 3 [] = bX11_pairOf_3 := rfl
theorem eX11_pairOf_4 : BX11_pairOf.getD 4 [] = bX11_pairOf_4 := rfl
def bX11_reword_0 : List In := [(0, 6, 0, 1, 0, []), (1, 39, 24, 0, 11, [1325531617, 75, 5141]), (4, 4, 0, 1, 2, []), (5, 45, 0, 0, 0, []), (6, 7, 0, 1, 3, []), (7, 1, 0, 0, 0, []), (8, 7, 0, 0, 4, []), (10, 58, 0, 0, 1001, [])]
def bX11_reword_1 : List In := [(10, 4, 0, 0, 4, []), (12, 4, 0, 1, 3, []), (13, 56, 3, 0, 2, []), (16, 6, 0, 1, 0, []), (17, 39, 30, 0, 11, [1426194497, 93, 5147]), (20, 4, 0, 0, 4, []), (22, 6, 0, 1, 0, []), (23, 39, 25, 0, 11, [1342312193, 78, 5142]), (26, 1, 8, 1, 0, []), (28, 4, 0, 1, 2, []), (29, 13, 0, 0, 0, []), (30, 4, 0, 0, 4, []), (32, 11, 0, 0, 0, []), (33, 45, 0, 0, 0, []), (34, 50, 0, 0, 0, []), (35, 6, 0, 1, 0, []), (36, 39, 31, 0, 11, [1442971713, 96, 5148]), (39, 4, 0, 0, 4, []), (41, 6, 0, 1, 0, []), (42, 39, 26, 0, 11, [1359089409, 81, 5143]), (45, 1, 8, 1, 0, []), (47, 4, 0, 1, 2, []), (48, 13, 0, 0, 0, []), (49, 4, 0, 0, 4, []), (51, 11, 0, 0, 0, []), (52, 45, 0, 0, 0, []), (53, 50, 0, 0, 0, []), (54, 10, 1, 0, 4, []), (57, 57, 0, 0, 1001, [])]
def bX11_reword_2 : List In := [(60, 6, 0, 1, 0, []), (61, 39, 8, 0, 11, [1107427809, 34, 5125]), (64, 4, 0, 1, 1, []), (65, 45, 0, 0, 0, []), (66, 7, 0, 0, 4, []), (68, 1, 0, 0, 0, []), (69, 7, 0, 0, 5, []), (71, 58, 0, 0, 1003, [])]
def bX11_reword_3 : List In := [(71, 4, 0, 0, 5, []), (73, 4, 0, 1, 3, []), (74, 56, 3, 0, 4, []), (77, 4, 0, 0, 5, []), (79, 4, 0, 0, 4, []), (81, 56, 3, 0, 4, []), (84, 6, 0, 1, 0, []), (85, 39, 30, 0, 11, [1426194497, 93, 5147]), (88, 4, 0, 0, 5, []), (90, 45, 0, 0, 0, []), (91, 6, 0, 1, 0, []), (92, 39, 9, 0, 11, [1124208385, 37, 5126]), (95, 1, 8, 1, 0, []), (97, 4, 0, 1, 1, []), (98, 13, 0, 0, 0, []), (99, 4, 0, 0, 5, []), (101, 11, 0, 0, 0, []), (102, 45, 0, 0, 0, []), (103, 56, 1, 0, 4, []), (106, 10, 1, 0, 5, []), (109, 57, 0, 0, 1003, [])]
def bX11_reword_4 : List In := [(112, 1, 0, 0, 0, []), (113, 7, 0, 0, 6, []), (115, 58, 0, 0, 1005, [])]
def bX11_reword_5 : List In := [(115, 4, 0, 0, 6, []), (117, 4, 0, 1, 3, []), (118, 4, 0, 0, 5, []), (120, 12, 0, 0, 0, []), (121, 56, 3, 0, 6, []), (124, 4, 0, 0, 6, []), (126, 4, 0, 0, 4, []), (128, 4, 0, 0, 5, []), (130, 12, 0, 0, 0, []), (131, 56, 3, 0, 6, []), (134, 6, 0, 1, 0, []), (135, 39, 30, 0, 11, [1426194497, 93, 5147]), (138, 4, 0, 1, 3, []), (139, 1, 1, 0, 0, []), (140, 12, 0, 0, 0, []), (141, 4, 0, 0, 6, []), (143, 12, 0, 0, 0, []), (144, 45, 0, 0, 0, []), (145, 6, 0, 1, 0, []), (146, 39, 9, 0, 11, [1124208385, 37, 5126]), (149, 1, 8, 1, 0, []), (151, 4, 0, 1, 1, []), (152, 13, 0, 0, 0, []), (153, 4, 0, 0, 4, []), (155, 11, 0, 0, 0, []), (156, 1, 1, 0, 0, []), (157, 12, 0, 0, 0, []), (158, 4, 0, 0, 6, []), (160, 12, 0, 0, 0, []), (161, 45, 0, 0, 0, []), (162, 56, 1, 0, 6, []), (165, 10, 1, 0, 6, []), (168, 57, 0, 0, 1005, [])]
def bX11_reword_6 : List In := [(171, 1, 0, 0, 0, []), (172, 7, 0, 0, 7, []), (174, 58, 0, 0, 1007, [])]
def bX11_reword_7 : List In := [(174, 4, 0, 0, 7, []), (176, 4, 0, 0, 4, []), (178, 56, 3, 0, 11, []), (181, 6, 0, 1, 0, []), (182, 39, 25, 0, 11, [1342312193, 78, 5142]), (185, 1, 8, 1, 0, []), (187, 4, 0, 1, 2, []), (188, 13, 0, 0, 0, []), (189, 4, 0, 0, 7, []), (191, 11, 0, 0, 0, []), (192, 6, 0, 1, 0, []), (193, 39, 9, 0, 11, [1124208385, 37, 5126]), (196, 1, 8, 1, 0, []), (198, 4, 0, 1, 1, []), (199, 13, 0, 0, 0, []), (200, 4, 0, 0, 7, []), (202, 11, 0, 0, 0, []), (203, 45, 0, 0, 0, []), (204, 50, 0, 0, 0, []), (205, 6, 0, 1, 0, []), (206, 39, 26, 0, 11, [1359089409, 81, 5143]), (209, 1, 8, 1, 0, []), (211, 4, 0, 1, 2, []), (212, 13, 0, 0, 0, []), (213, 4, 0, 0, 7, []), (215, 11, 0, 0, 0, []), (216, 4, 0, 0, 7, []), (218, 4, 0, 0, 5, []), (220, 56, 3, 0, 8, []), (223, 6, 0, 1, 0, []), (224, 39, 31, 0, 11, [1442971713, 96, 5148]), (227, 4, 0, 0, 7, []), (229, 45, 0, 0, 0, []), (230, 57, 0, 0, 10, [])]
def bX11_reword_8 : List In := [(233, 4, 0, 0, 7, []), (235, 4, 0, 0, 4, []), (237, 4, 0, 0, 6, []), (239, 12, 0, 0, 0, []), (240, 56, 2, 0, 9, []), (243, 6, 0, 1, 0, []), (244, 39, 31, 0, 11, [1442971713, 96, 5148]), (247, 4, 0, 1, 3, []), (248, 4, 0, 0, 4, []), (250, 12, 0, 0, 0, []), (251, 4, 0, 0, 7, []), (253, 11, 0, 0, 0, []), (254, 45, 0, 0, 0, []), (255, 57, 0, 0, 10, [])]
def bX11_reword_9 : List In := [(258, 4, 0, 1, 1, []), (259, 58, 0, 0, 10, [])]
def bX11_reword_10 : List In := [(259, 50, 0, 0, 0, []), (260, 10, 1, 0, 7, []), (263, 57, 0, 0, 1007, [])]
def bX11_reword_11 : List In := [(266, 6, 0, 1, 0, []), (267, 39, 24, 0, 11, [1325531617, 75, 5141]), (270, 4, 0, 1, 2, []), (271, 4, 0, 0, 4, []), (273, 50, 0, 0, 0, []), (274, 64, 0, 0, 0, [])]
def BX11_reword : List (List In) := [bX11_reword_0, bX11_reword_1, bX11_reword_2, bX11_reword_3, bX11_reword_4, bX11_reword_5, bX11_reword_6, bX11_reword_7, bX11_reword_8, bX11_reword_9, bX11_reword_10, bX11_reword_11]
set_option maxRecDepth 100000 in
theorem mkX11_reword : MkB 44 BX11_reword := MkB_of (by decide +kernel)
theorem lX11_reword : (sgD 44).2.2.1 = 8 := rfl
theorem eX11_reword_0 : BX11_reword.getD 0 [] = bX11_reword_0 := rfl
theorem eX11_reword_1 : BX11_reword.getD 1 [] = bX11_reword_1 := rfl
theorem eX11_reword_2 : BX11_reword.getD 2 [] = bX11_reword_2 := rfl
theorem eX11_reword_3 : BX11_reword.getD 3 [] = bX11_reword_3 := rfl
theorem eX11_reword_4 : BX11_reword.getD 4 [] = bX11_reword_4 := rfl
theorem eX11_reword_5 : BX11_reword.getD 5 [] = bX11_reword_5 := rfl
theorem eX11_reword_6 : BX11_reword.getD 6 [] = bX11_reword_6 := rfl
theorem eX11_reword_7 : BX11_reword.getD 7 [] = bX11_reword_7 := rfl
theorem eX11_reword_8 : BX11_reword.getD 8 [] = bX11_reword_8 := rfl
theorem eX11_reword_9 : BX11_reword.getD 9 [] = bX11_reword_9 := rfl
theorem eX11_reword_10 : BX11_reword.getD 10 [] = bX11_reword_10 := rfl
theorem eX11_reword_11 : BX11_reword.getD 11 [] = bX11_reword_11 := rfl
def bX11_setLines_0 : List In := [(0, 6, 0, 1, 0, []), (1, 37, 81, 0, 11, [428, 5198]), (4, 4, 0, 1, 1, []), (5, 11, 0, 0, 0, []), (6, 4, 0, 1, 2, []), (7, 56, 5, 0, 1, []), (10, 6, 0, 1, 0, []), (11, 35, 0, 0, 0, []), (12, 37, 76, 0, 11, [431, 5193]), (15, 4, 0, 1, 2, []), (16, 6, 0, 1, 0, []), (17, 37, 81, 0, 11, [428, 5198]), (20, 12, 0, 0, 0, []), (21, 11, 0, 0, 0, []), (22, 42, 76, 0, 11, [431, 5193]), (25, 6, 0, 1, 0, []), (26, 35, 0, 0, 0, []), (27, 37, 80, 0, 11, [434, 5197]), (30, 1, 1, 0, 0, []), (31, 11, 0, 0, 0, []), (32, 42, 80, 0, 11, [434, 5197]), (35, 6, 0, 1, 0, []), (36, 1, 0, 0, 0, []), (37, 42, 81, 0, 11, [428, 5198]), (40, 58, 0, 0, 1, [])]
def bX11_setLines_1 : List In := [(40, 6, 0, 1, 0, []), (41, 35, 0, 0, 0, []), (42, 37, 81, 0, 11, [428, 5198]), (45, 4, 0, 1, 1, []), (46, 11, 0, 0, 0, []), (47, 42, 81, 0, 11, [428, 5198]), (50, 6, 0, 1, 0, []), (51, 6, 0, 1, 0, []), (52, 37, 80, 0, 11, [434, 5197]), (55, 42, 73, 0, 11, [437, 5190]), (58, 6, 0, 1, 0, []), (59, 37, 80, 0, 11, [434, 5197]), (62, 60, 0, 0, 0, [])]
def BX11_setLines : List (List In) := [bX11_setLines_0, bX11_setLines_1]
set_option maxRecDepth 100000 in
theorem mkX11_setLines : MkB 45 BX11_setLines := MkB_of (by decide +kernel)
theorem lX11_setLines : (sgD 45).2.2.1 = 3 := rfl
theorem eX11_setLines_0 : BX11_setLines.getD 0 [] = bX11_setLines_0 := rfl
theorem eX11_setLines_1 : BX11_setLines.getD 1 [] = bX11_setLines_1 := rfl
def bX11_setOf_0 : List In := [(0, 4, 0, 1, 1, []), (1, 1, 6, 1, 0, []), (3, 56, 3, 0, 1, []), (6, 6, 0, 1, 0, []), (7, 39, 11, 0, 11, [1140981811, 40, 5128]), (10, 4, 0, 1, 1, []), (11, 47, 0, 0, 0, []), (12, 57, 0, 0, 2, [])]
def bX11_setOf_1 : List In := [(15, 6, 0, 1, 0, []), (16, 39, 12, 0, 11, [1157759043, 44, 5129]), (19, 4, 0, 1, 1, []), (20, 1, 10, 1, 0, []), (22, 12, 0, 0, 0, []), (23, 47, 0, 0, 0, []), (24, 58, 0, 0, 2, [])]
def bX11_setOf_2 : List In := [(24, 62, 0, 0, 0, [])]
def BX11_setOf : List (List In) := [bX11_setOf_0, bX11_setOf_1, bX11_setOf_2]
set_option maxRecDepth 100000 in
theorem mkX11_setOf : MkB 46 BX11_setOf := MkB_of (by decide +kernel)
theorem lX11_setOf : (sgD 46).2.2.1 = 2 := rfl
theorem eX11_setOf_0 : BX11_setOf.getD 0 [] = bX11_setOf_0 := rfl
theorem eX11_setOf_1 : BX11_setOf.getD 1 [] = bX11_setOf_1 := rfl
theorem eX11_setOf_2 : BX11_setOf.getD 2 [] = bX11_setOf_2 := rfl
def bX11_widthOf_0 : List In := [(0, 4, 0, 1, 2, []), (1, 1, 1, 0, 0, []), (2, 12, 0, 0, 0, []), (3, 7, 0, 1, 3, []), (4, 4, 0, 1, 1, []), (5, 7, 0, 0, 4, []), (7, 58, 0, 0, 1001, [])]
def bX11_widthOf_1 : List In := [(7, 4, 0, 0, 4, []), (9, 4, 0, 1, 1, []), (10, 4, 0, 1, 2, []), (11, 11, 0, 0, 0, []), (12, 56, 3, 0, 2, []), (15, 4, 0, 1, 3, []), (16, 6, 0, 1, 0, []), (17, 39, 77, 0, 11, [1979842641, 192, 5194]), (20, 4, 0, 0, 4, []), (22, 45, 0, 0, 0, []), (23, 11, 0, 0, 0, []), (24, 7, 0, 1, 3, []), (25, 10, 1, 0, 4, []), (28, 57, 0, 0, 1001, [])]
def bX11_widthOf_2 : List In := [(31, 4, 0, 1, 3, []), (32, 60, 0, 0, 0, [])]
def BX11_widthOf : List (List In) := [bX11_widthOf_0, bX11_widthOf_1, bX11_widthOf_2]
set_option maxRecDepth 100000 in
theorem mkX11_widthOf : MkB 47 BX11_widthOf := MkB_of (by decide +kernel)
theorem lX11_widthOf : (sgD 47).2.2.1 = 5 := rfl
theorem eX11_widthOf_0 : BX11_widthOf.getD 0 [] = bX11_widthOf_0 := rfl
theorem eX11_widthOf_1 : BX11_widthOf.getD 1 [] = bX11_widthOf_1 := rfl
theorem eX11_widthOf_2 : BX11_widthOf.getD 2 [] = bX11_widthOf_2 := rfl
def bX11_agrees_0 : List In := [(0, 6, 0, 1, 0, []), (1, 39, 48, 0, 11, [1644298625, 132, 5165]), (4, 1, 2, 0, 0, []), (5, 4, 0, 1, 1, []), (6, 13, 0, 0, 0, []), (7, 45, 0, 0, 0, []), (8, 6, 0, 1, 0, []), (9, 39, 24, 0, 11, [1325531617, 75, 5141]), (12, 4, 0, 1, 2, []), (13, 45, 0, 0, 0, []), (14, 56, 1, 0, 1, []), (17, 1, 1, 0, 0, []), (18, 57, 0, 0, 2, [])]
def bX11_agrees_1 : List In := [(21, 1, 0, 0, 0, []), (22, 58, 0, 0, 2, [])]
def bX11_agrees_2 : List In := [(22, 7, 0, 1, 3, []), (23, 1, 0, 0, 0, []), (24, 7, 0, 0, 4, []), (26, 58, 0, 0, 1003, [])]
def bX11_agrees_3 : List In := [(26, 4, 0, 0, 4, []), (28, 6, 0, 1, 0, []), (29, 39, 24, 0, 11, [1325531617, 75, 5141]), (32, 4, 0, 1, 2, []), (33, 45, 0, 0, 0, []), (34, 56, 3, 0, 4, []), (37, 4, 0, 1, 3, []), (38, 55, 0, 0, 4, []), (41, 6, 0, 1, 0, []), (42, 6, 0, 1, 0, []), (43, 39, 49, 0, 11, [1661078529, 135, 5166]), (46, 1, 16, 1, 0, []), (48, 4, 0, 1, 1, []), (49, 13, 0, 0, 0, []), (50, 4, 0, 0, 4, []), (52, 11, 0, 0, 0, []), (53, 45, 0, 0, 0, []), (54, 6, 0, 1, 0, []), (55, 39, 25, 0, 11, [1342312193, 78, 5142]), (58, 1, 8, 1, 0, []), (60, 4, 0, 1, 2, []), (61, 13, 0, 0, 0, []), (62, 4, 0, 0, 4, []), (64, 11, 0, 0, 0, []), (65, 45, 0, 0, 0, []), (66, 75, 7080, 328, 3, [24, 11]), (69, 7, 0, 1, 3, []), (70, 10, 1, 0, 4, []), (73, 57, 0, 0, 1003, [])]
def bX11_agrees_4 : List In := [(76, 4, 0, 1, 3, []), (77, 61, 0, 0, 0, [])]
def BX11_agrees : List (List In) := [bX11_agrees_0, bX11_agrees_1, bX11_agrees_2, bX11_agrees_3, bX11_agrees_4]
set_option maxRecDepth 100000 in
theorem mkX11_agrees : MkB 88 BX11_agrees := MkB_of (by decide +kernel)
theorem lX11_agrees : (sgD 88).2.2.1 = 5 := rfl
theorem eX11_agrees_0 : BX11_agrees.getD 0 [] = bX11_agrees_0 := rfl
theorem eX11_agrees_1 : BX11_agrees.getD 1 [] = bX11_agrees_1 := rfl
theorem eX11_agrees_2 : BX11_agrees.getD 2 [] = bX11_agrees_2 := rfl
theorem eX11_agrees_3 : BX11_agrees.getD 3 [] = bX11_agrees_3 := rfl
theorem eX11_agrees_4 : BX11_agrees.getD 4 [] = bX11_agrees_4 := rfl
def bX11_change_0 : List In := [(0, 4, 0, 1, 1, []), (1, 32, 0, 0, 0, []), (2, 2, 0, 0, 0, []), (3, 6, 0, 1, 0, []), (4, 37, 10, 0, 11, [214, 5127]), (7, 1, 1, 0, 0, []), (8, 12, 0, 0, 0, []), (9, 32, 0, 0, 0, []), (10, 65, 6133, 200, 3, [31, 0]), (13, 55, 1, 0, 1, []), (16, 1, -101, 1, 0, []), (18, 60, 0, 0, 0, [])]
def bX11_change_1 : List In := [(19, 4, 0, 1, 2, []), (20, 59, 0, 7, 12, [2, 3, 4, 5, 6, 9, 10, 11])]
def bX11_change_2 : List In := [(68, 6, 0, 1, 0, []), (69, 39, 0, 0, 11, [973210081, 7, 5117]), (72, 4, 0, 1, 1, []), (73, 45, 0, 0, 0, []), (74, 60, 0, 0, 0, [])]
def bX11_change_3 : List In := [(75, 6, 0, 1, 0, []), (76, 39, 1, 0, 11, [989987297, 13, 5118]), (79, 4, 0, 1, 1, []), (80, 45, 0, 0, 0, []), (81, 60, 0, 0, 0, [])]
def bX11_change_4 : List In := [(82, 6, 0, 1, 0, []), (83, 39, 2, 0, 11, [1006764513, 16, 5119]), (86, 4, 0, 1, 1, []), (87, 45, 0, 0, 0, []), (88, 60, 0, 0, 0, [])]
def bX11_change_5 : List In := [(89, 6, 0, 1, 0, []), (90, 39, 3, 0, 11, [1023541729, 19, 5120]), (93, 4, 0, 1, 1, []), (94, 45, 0, 0, 0, []), (95, 60, 0, 0, 0, [])]
def bX11_change_6 : List In := [(96, 6, 0, 1, 0, []), (97, 39, 0, 0, 11, [973210081, 7, 5117]), (100, 4, 0, 1, 1, []), (101, 45, 0, 0, 0, []), (102, 1, 3, 0, 0, []), (103, 56, 1, 0, 7, []), (106, 6, 0, 1, 0, []), (107, 39, 8, 0, 11, [1107427809, 34, 5125]), (110, 4, 0, 1, 1, []), (111, 45, 0, 0, 0, []), (112, 57, 0, 0, 8, [])]
def bX11_change_7 : List In := [(115, 6, 0, 1, 0, []), (116, 39, 4, 0, 11, [1040318945, 22, 5121]), (119, 4, 0, 1, 1, []), (120, 45, 0, 0, 0, []), (121, 58, 0, 0, 8, [])]
def bX11_change_8 : List In := [(121, 60, 0, 0, 0, [])]
def bX11_change_9 : List In := [(122, 6, 0, 1, 0, []), (123, 39, 5, 0, 11, [1057096161, 25, 5122]), (126, 4, 0, 1, 1, []), (127, 45, 0, 0, 0, []), (128, 60, 0, 0, 0, [])]
def bX11_change_10 : List In := [(129, 6, 0, 1, 0, []), (130, 39, 6, 0, 11, [1073873377, 28, 5123]), (133, 4, 0, 1, 1, []), (134, 45, 0, 0, 0, []), (135, 60, 0, 0, 0, [])]
def bX11_change_11 : List In := [(136, 6, 0, 1, 0, []), (137, 39, 7, 0, 11, [1090650593, 31, 5124]), (140, 4, 0, 1, 1, []), (141, 45, 0, 0, 0, []), (142, 60, 0, 0, 0, [])]
def bX11_change_12 : List In := [(143, 1, -102, 1, 0, []), (145, 60, 0, 0, 0, [])]
def BX11_change : List (List In) := [bX11_change_0, bX11_change_1, bX11_change_2, bX11_change_3, bX11_change_4, bX11_change_5, bX11_change_6, bX11_change_7, bX11_change_8, bX11_change_9, bX11_change_10, bX11_change_11, bX11_change_12]
set_option maxRecDepth 100000 in
theorem mkX11_change : MkB 89 BX11_change := MkB_of (by decide +kernel)
theorem lX11_change : (sgD 89).2.2.1 = 3 := rfl
theorem eX11_change_0 : BX11_change.getD 0 [] = bX11_change_0 := rfl
theorem eX11_change_1 : BX11_change.getD 1 [] = bX11_change_1 := rfl
theorem eX11_change_2 : BX11_change.getD 2 [] = bX11_change_2 := rfl
theorem eX11_change_3 : BX11_change.getD 3 [] = bX11_change_3 := rfl
theorem eX11_change_4 : BX11_change.getD 4 [] = bX11_change_4 := rfl
theorem eX11_change_5 : BX11_change.getD 5 [] = bX11_change_5 := rfl
theorem eX11_change_6 : BX11_change.getD 6 [] = bX11_change_6 := rfl
theorem eX11_change_7 : BX11_change.getD 7 [] = bX11_change_7 := rfl
theorem eX11_change_8 : BX11_change.getD 8 [] = bX11_change_8 := rfl
theorem eX11_change_9 : BX11_change.getD 9 [] = bX11_change_9 := rfl
theorem eX11_change_10 : BX11_change.getD 10 [] = bX11_change_10 := rfl
theorem eX11_change_11 : BX11_change.getD 11 [] = bX11_change_11 := rfl
theorem eX11_change_12 : BX11_change.getD 12 [] = bX11_change_12 := rfl
def bX11_costOf_0 : List In := [(0, 6, 0, 1, 0, []), (1, 39, 48, 0, 11, [1644298625, 132, 5165]), (4, 1, 2, 0, 0, []), (5, 4, 0, 1, 1, []), (6, 13, 0, 0, 0, []), (7, 45, 0, 0, 0, []), (8, 7, 0, 1, 3, []), (9, 1, 0, 0, 0, []), (10, 7, 0, 0, 4, []), (12, 58, 0, 0, 1001, [])]
def bX11_costOf_1 : List In := [(12, 4, 0, 0, 4, []), (14, 4, 0, 1, 3, []), (15, 56, 4, 0, 9, []), (18, 1, 0, 0, 0, []), (19, 7, 0, 0, 5, []), (21, 58, 0, 0, 1002, [])]
def bX11_costOf_2 : List In := [(21, 4, 0, 0, 5, []), (23, 6, 0, 1, 0, []), (24, 39, 24, 0, 11, [1325531617, 75, 5141]), (27, 4, 0, 1, 2, []), (28, 45, 0, 0, 0, []), (29, 56, 4, 0, 8, []), (32, 4, 0, 0, 4, []), (34, 55, 0, 0, 3, []), (37, 4, 0, 0, 5, []), (39, 55, 1, 0, 4, []), (42, 58, 0, 0, 3, [])]
def bX11_costOf_3 : List In := [(42, 6, 0, 1, 0, []), (43, 39, 55, 0, 11, [1728184969, 147, 5172]), (46, 1, 9, 1, 0, []), (48, 4, 0, 0, 4, []), (50, 13, 0, 0, 0, []), (51, 4, 0, 0, 5, []), (53, 11, 0, 0, 0, []), (54, 4, 0, 0, 4, []), (56, 4, 0, 0, 5, []), (58, 11, 0, 0, 0, []), (59, 50, 0, 0, 0, []), (60, 57, 0, 0, 7, [])]
def bX11_costOf_4 : List In := [(63, 6, 0, 1, 0, []), (64, 39, 55, 0, 11, [1728184969, 147, 5172]), (67, 1, 9, 1, 0, []), (69, 4, 0, 0, 4, []), (71, 1, 1, 0, 0, []), (72, 12, 0, 0, 0, []), (73, 13, 0, 0, 0, []), (74, 4, 0, 0, 5, []), (76, 11, 0, 0, 0, []), (77, 45, 0, 0, 0, []), (78, 1, 1, 0, 0, []), (79, 11, 0, 0, 0, []), (80, 6, 0, 1, 0, []), (81, 39, 55, 0, 11, [1728184969, 147, 5172]), (84, 1, 9, 1, 0, []), (86, 4, 0, 0, 4, []), (88, 13, 0, 0, 0, []), (89, 4, 0, 0, 5, []), (91, 11, 0, 0, 0, []), (92, 1, 1, 0, 0, []), (93, 12, 0, 0, 0, []), (94, 45, 0, 0, 0, []), (95, 1, 1, 0, 0, []), (96, 11, 0, 0, 0, []), (97, 65, 7164, 383, 2, [40, 0]), (100, 7, 0, 0, 6, []), (102, 6, 0, 1, 0, []), (103, 6, 0, 1, 0, []), (104, 39, 49, 0, 11, [1661078529, 135, 5166]), (107, 1, 16, 1, 0, []), (109, 4, 0, 1, 1, []), (110, 13, 0, 0, 0, []), (111, 4, 0, 0, 4, []), (113, 11, 0, 0, 0, []), (114, 1, 1, 0, 0, []), (115, 12, 0, 0, 0, []), (116, 45, 0, 0, 0, []), (117, 6, 0, 1, 0, []), (118, 39, 25, 0, 11, [1342312193, 78, 5142]), (121, 1, 8, 1, 0, []), (123, 4, 0, 1, 2, []), (124, 13, 0, 0, 0, []), (125, 4, 0, 0, 5, []), (127, 11, 0, 0, 0, []), (128, 1, 1, 0, 0, []), (129, 12, 0, 0, 0, []), (130, 45, 0, 0, 0, []), (131, 75, 7080, 328, 3, [24, 11]), (134, 7, 0, 0, 7, []), (136, 6, 0, 1, 0, []), (137, 39, 55, 0, 11, [1728184969, 147, 5172]), (140, 1, 9, 1, 0, []), (142, 4, 0, 0, 4, []), (144, 1, 1, 0, 0, []), (145, 12, 0, 0, 0, []), (146, 13, 0, 0, 0, []), (147, 4, 0, 0, 5, []), (149, 11, 0, 0, 0, []), (150, 1, 1, 0, 0, []), (151, 12, 0, 0, 0, []), (152, 45, 0, 0, 0, []), (153, 4, 0, 0, 7, []), (155, 55, 0, 0, 5, []), (158, 1, 0, 0, 0, []), (159, 57, 0, 0, 6, [])]
def bX11_costOf_5 : List In := [(162, 1, 2, 0, 0, []), (163, 58, 0, 0, 6, [])]
def bX11_costOf_6 : List In := [(163, 11, 0, 0, 0, []), (164, 7, 0, 0, 8, []), (166, 6, 0, 1, 0, []), (167, 39, 55, 0, 11, [1728184969, 147, 5172]), (170, 1, 9, 1, 0, []), (172, 4, 0, 0, 4, []), (174, 13, 0, 0, 0, []), (175, 4, 0, 0, 5, []), (177, 11, 0, 0, 0, []), (178, 4, 0, 0, 6, []), (180, 4, 0, 0, 8, []), (182, 65, 7164, 383, 2, [40, 0]), (185, 50, 0, 0, 0, []), (186, 58, 0, 0, 7, [])]
def bX11_costOf_7 : List In := [(186, 10, 1, 0, 5, []), (189, 57, 0, 0, 1002, [])]
def bX11_costOf_8 : List In := [(192, 10, 1, 0, 4, []), (195, 57, 0, 0, 1001, [])]
def bX11_costOf_9 : List In := [(198, 6, 0, 1, 0, []), (199, 39, 55, 0, 11, [1728184969, 147, 5172]), (202, 1, 9, 1, 0, []), (204, 4, 0, 1, 3, []), (205, 13, 0, 0, 0, []), (206, 6, 0, 1, 0, []), (207, 39, 24, 0, 11, [1325531617, 75, 5141]), (210, 4, 0, 1, 2, []), (211, 45, 0, 0, 0, []), (212, 11, 0, 0, 0, []), (213, 45, 0, 0, 0, []), (214, 60, 0, 0, 0, [])]
def BX11_costOf : List (List In) := [bX11_costOf_0, bX11_costOf_1, bX11_costOf_2, bX11_costOf_3, bX11_costOf_4, bX11_costOf_5, bX11_costOf_6, bX11_costOf_7, bX11_costOf_8, bX11_costOf_9]
set_option maxRecDepth 100000 in
theorem mkX11_costOf : MkB 90 BX11_costOf := MkB_of (by decide +kernel)
theorem lX11_costOf : (sgD 90).2.2.1 = 9 := rfl
theorem eX11_costOf_0 : BX11_costOf.getD 0 [] = bX11_costOf_0 := rfl
theorem eX11_costOf_1 : BX11_costOf.getD 1 [] = bX11_costOf_1 := rfl
theorem eX11_costOf_2 : BX11_costOf.getD 2 [] = bX11_costOf_2 := rfl
theorem eX11_costOf_3 : BX11_costOf.getD 3 [] = bX11_costOf_3 := rfl
theorem eX11_costOf_4 : BX11_costOf.getD 4 [] = bX11_costOf_4 := rfl
theorem eX11_costOf_5 : BX11_costOf.getD 5 [] = bX11_costOf_5 := rfl
theorem eX11_costOf_6 : BX11_costOf.getD 6 [] = bX11_costOf_6 := rfl
theorem eX11_costOf_7 : BX11_costOf.getD 7 [] = bX11_costOf_7 := rfl
theorem eX11_costOf_8 : BX11_costOf.getD 8 [] = bX11_costOf_8 := rfl
theorem eX11_costOf_9 : BX11_costOf.getD 9 [] = bX11_costOf_9 := rfl
def bX11_firm_0 : List In := [(0, 4, 0, 1, 1, []), (1, 32, 0, 0, 0, []), (2, 2, 0, 0, 0, []), (3, 2, 1, 0, 1, []), (4, 65, 6133, 200, 3, [31, 0]), (7, 55, 1, 0, 1, []), (10, 1, -2, 1, 0, []), (12, 60, 0, 0, 0, [])]
def bX11_firm_1 : List In := [(13, 6, 0, 1, 0, []), (14, 37, 16, 0, 11, [239, 5133]), (17, 7, 0, 1, 2, []), (18, 6, 0, 1, 0, []), (19, 4, 0, 1, 1, []), (20, 42, 16, 0, 11, [239, 5133]), (23, 4, 0, 1, 2, []), (24, 60, 0, 0, 0, [])]
def BX11_firm : List (List In) := [bX11_firm_0, bX11_firm_1]
set_option maxRecDepth 100000 in
theorem mkX11_firm : MkB 91 BX11_firm := MkB_of (by decide +kernel)
theorem lX11_firm : (sgD 91).2.2.1 = 3 := rfl
theorem eX11_firm_0 : BX11_firm.getD 0 [] = bX11_firm_0 := rfl
theorem eX11_firm_1 : BX11_firm.getD 1 [] = bX11_firm_1 := rfl
def bX11_fold_0 : List In := [(0, 4, 0, 1, 1, []), (1, 32, 0, 0, 0, []), (2, 2, 1, 0, 1, []), (3, 2, 99, 1, 0, [265, 6136]), (6, 65, 6133, 200, 3, [31, 0]), (9, 55, 0, 0, 1, []), (12, 4, 0, 1, 2, []), (13, 32, 0, 0, 0, []), (14, 2, 1, 0, 1, []), (15, 2, 99, 1, 0, [265, 6136]), (18, 65, 6133, 200, 3, [31, 0]), (21, 55, 0, 0, 1, []), (24, 4, 0, 1, 1, []), (25, 4, 0, 1, 2, []), (26, 56, 1, 0, 2, []), (29, 58, 0, 0, 1, [])]
def bX11_fold_1 : List In := [(29, 1, -2, 1, 0, []), (31, 60, 0, 0, 0, [])]
def bX11_fold_2 : List In := [(32, 6, 0, 1, 0, []), (33, 37, 35, 0, 11, [325, 5152]), (36, 1, 8, 1, 0, []), (38, 56, 1, 0, 3, []), (41, 1, -4, 1, 0, []), (43, 60, 0, 0, 0, [])]
def bX11_fold_3 : List In := [(44, 6, 0, 1, 0, []), (45, 39, 34, 0, 11, [1476526881, 102, 5151]), (48, 4, 0, 1, 1, []), (49, 45, 0, 0, 0, []), (50, 7, 0, 1, 3, []), (51, 6, 0, 1, 0, []), (52, 39, 34, 0, 11, [1476526881, 102, 5151]), (55, 4, 0, 1, 2, []), (56, 45, 0, 0, 0, []), (57, 7, 0, 0, 4, []), (59, 1, 0, 0, 0, []), (60, 7, 0, 0, 5, []), (62, 58, 0, 0, 1004, [])]
def bX11_fold_4 : List In := [(62, 4, 0, 0, 5, []), (64, 1, 100, 1, 0, []), (66, 56, 3, 0, 7, []), (69, 6, 0, 1, 0, []), (70, 39, 34, 0, 11, [1476526881, 102, 5151]), (73, 4, 0, 0, 5, []), (75, 6, 0, 1, 0, []), (76, 39, 34, 0, 11, [1476526881, 102, 5151]), (79, 4, 0, 0, 5, []), (81, 45, 0, 0, 0, []), (82, 4, 0, 0, 4, []), (84, 56, 1, 0, 5, []), (87, 4, 0, 1, 3, []), (88, 57, 0, 0, 6, [])]
def bX11_fold_5 : List In := [(91, 6, 0, 1, 0, []), (92, 39, 34, 0, 11, [1476526881, 102, 5151]), (95, 4, 0, 0, 5, []), (97, 45, 0, 0, 0, []), (98, 58, 0, 0, 6, [])]
def bX11_fold_6 : List In := [(98, 50, 0, 0, 0, []), (99, 10, 1, 0, 5, []), (102, 57, 0, 0, 1004, [])]
def bX11_fold_7 : List In := [(105, 6, 0, 1, 0, []), (106, 35, 0, 0, 0, []), (107, 37, 35, 0, 11, [325, 5152]), (110, 1, 1, 0, 0, []), (111, 11, 0, 0, 0, []), (112, 42, 35, 0, 11, [325, 5152]), (115, 6, 0, 1, 0, []), (116, 37, 35, 0, 11, [325, 5152]), (119, 60, 0, 0, 0, [])]
def BX11_fold : List (List In) := [bX11_fold_0, bX11_fold_1, bX11_fold_2, bX11_fold_3, bX11_fold_4, bX11_fold_5, bX11_fold_6, bX11_fold_7]
set_option maxRecDepth 100000 in
theorem mkX11_fold : MkB 92 BX11_fold := MkB_of (by decide +kernel)
theorem lX11_fold : (sgD 92).2.2.1 = 6 := rfl
theorem eX11_fold_0 : BX11_fold.getD 0 [] = bX11_fold_0 := rfl
theorem eX11_fold_1 : BX11_fold.getD 1 [] = bX11_fold_1 := rfl
theorem eX11_fold_2 : BX11_fold.getD 2 [] = bX11_fold_2 := rfl
theorem eX11_fold_3 : BX11_fold.getD 3 [] = bX11_fold_3 := rfl
theorem eX11_fold_4 : BX11_fold.getD 4 [] = bX11_fold_4 := rfl
theorem eX11_fold_5 : BX11_fold.getD 5 [] = bX11_fold_5 := rfl
theorem eX11_fold_6 : BX11_fold.getD 6 [] = bX11_fold_6 := rfl
theorem eX11_fold_7 : BX11_fold.getD 7 [] = bX11_fold_7 := rfl
def bX11_gatherText_0 : List In := [(0, 6, 0, 1, 0, []), (1, 1, 0, 0, 0, []), (2, 42, 45, 0, 11, [352, 5162]), (5, 1, 0, 0, 0, []), (6, 7, 0, 1, 2, []), (7, 58, 0, 0, 1001, [])]
def bX11_gatherText_1 : List In := [(7, 4, 0, 1, 2, []), (8, 6, 0, 1, 0, []), (9, 37, 33, 0, 11, [259, 5150]), (12, 56, 3, 0, 5, []), (15, 6, 0, 1, 0, []), (16, 39, 32, 0, 11, [1459749345, 99, 5149]), (19, 4, 0, 1, 2, []), (20, 45, 0, 0, 0, []), (21, 7, 0, 1, 3, []), (22, 4, 0, 1, 1, []), (23, 1, -1, 0, 0, []), (24, 56, 0, 0, 2, []), (27, 6, 0, 1, 0, []), (28, 4, 0, 1, 3, []), (29, 4, 0, 1, 1, []), (30, 75, 6177, 232, 3, [39, 11]), (33, 55, 0, 0, 4, []), (36, 58, 0, 0, 2, [])]
def bX11_gatherText_2 : List In := [(36, 1, 0, 0, 0, []), (37, 7, 0, 0, 4, []), (39, 58, 0, 0, 1003, [])]
def bX11_gatherText_3 : List In := [(39, 4, 0, 0, 4, []), (41, 6, 0, 1, 0, []), (42, 39, 24, 0, 11, [1325531617, 75, 5141]), (45, 4, 0, 1, 3, []), (46, 45, 0, 0, 0, []), (47, 56, 3, 0, 4, []), (50, 6, 0, 1, 0, []), (51, 39, 44, 0, 11, [1593970433, 123, 5161]), (54, 6, 0, 1, 0, []), (55, 37, 45, 0, 11, [352, 5162]), (58, 6, 0, 1, 0, []), (59, 39, 25, 0, 11, [1342312193, 78, 5142]), (62, 1, 8, 1, 0, []), (64, 4, 0, 1, 3, []), (65, 13, 0, 0, 0, []), (66, 4, 0, 0, 4, []), (68, 11, 0, 0, 0, []), (69, 45, 0, 0, 0, []), (70, 50, 0, 0, 0, []), (71, 6, 0, 1, 0, []), (72, 35, 0, 0, 0, []), (73, 37, 45, 0, 11, [352, 5162]), (76, 1, 1, 0, 0, []), (77, 11, 0, 0, 0, []), (78, 42, 45, 0, 11, [352, 5162]), (81, 10, 1, 0, 4, []), (84, 57, 0, 0, 1003, [])]
def bX11_gatherText_4 : List In := [(87, 10, 1, 0, 2, []), (90, 57, 0, 0, 1001, [])]
def bX11_gatherText_5 : List In := [(93, 64, 0, 0, 0, [])]
def BX11_gatherText : List (List In) := [bX11_gatherText_0, bX11_gatherText_1, bX11_gatherText_2, bX11_gatherText_3, bX11_gatherText_4, bX11_gatherText_5]
set_option maxRecDepth 100000 in
theorem mkX11_gatherText : MkB 93 BX11_gatherText := MkB_of (by decide +kernel)
theorem lX11_gatherText : (sgD 93).2.2.1 = 5 := rfl
theorem eX11_gatherText_0 : BX11_gatherText.getD 0 [] = bX11_gatherText_0 := rfl
theorem eX11_gatherText_1 : BX11_gatherText.getD 1 [] = bX11_gatherText_1 := rfl
theorem eX11_gatherText_2 : BX11_gatherText.getD 2 [] = bX11_gatherText_2 := rfl
theorem eX11_gatherText_3 : BX11_gatherText.getD 3 [] = bX11_gatherText_3 := rfl
theorem eX11_gatherText_4 : BX11_gatherText.getD 4 [] = bX11_gatherText_4 := rfl
theorem eX11_gatherText_5 : BX11_gatherText.getD 5 [] = bX11_gatherText_5 := rfl
def bX11_hasKind_0 : List In := [(0, 1, 0, 0, 0, []), (1, 7, 0, 0, 5, []), (3, 58, 0, 0, 1001, [])]
def bX11_hasKind_1 : List In := [(3, 4, 0, 0, 5, []), (5, 6, 0, 1, 0, []), (6, 37, 10, 0, 11, [214, 5127]), (9, 56, 3, 0, 3, []), (12, 5, 0, 1, 1, []), (13, 4, 0, 0, 5, []), (15, 65, 6159, 252, 2, [35, 0]), (18, 55, 0, 0, 2, []), (21, 6, 0, 1, 0, []), (22, 39, 0, 0, 11, [973210081, 7, 5117]), (25, 4, 0, 0, 5, []), (27, 45, 0, 0, 0, []), (28, 4, 0, 1, 3, []), (29, 56, 1, 0, 2, []), (32, 6, 0, 1, 0, []), (33, 39, 3, 0, 11, [1023541729, 19, 5120]), (36, 4, 0, 0, 5, []), (38, 45, 0, 0, 0, []), (39, 4, 0, 0, 4, []), (41, 56, 1, 0, 2, []), (44, 1, 1, 0, 0, []), (45, 61, 0, 0, 0, [])]
def bX11_hasKind_2 : List In := [(46, 10, 1, 0, 5, []), (49, 57, 0, 0, 1001, [])]
def bX11_hasKind_3 : List In := [(52, 1, 0, 0, 0, []), (53, 61, 0, 0, 0, [])]
def BX11_hasKind : List (List In) := [bX11_hasKind_0, bX11_hasKind_1, bX11_hasKind_2, bX11_hasKind_3]
set_option maxRecDepth 100000 in
theorem mkX11_hasKind : MkB 94 BX11_hasKind := MkB_of (by decide +kernel)
theorem lX11_hasKind : (sgD 94).2.2.1 = 6 := rfl
theorem eX11_hasKind_0 : BX11_hasKind.getD 0 [] = bX11_hasKind_0 := rfl
theorem eX11_hasKind_1 : BX11_hasKind.getD 1 [] = bX11_hasKind_1 := rfl
theorem eX11_hasKind_2 : BX11_hasKind.getD 2 [] = bX11_hasKind_2 := rfl
theorem eX11_hasKind_3 : BX11_hasKind.getD 3 [] = bX11_hasKind_3 := rfl
def bX11_hasSay_0 : List In := [(0, 6, 0, 1, 0, []), (1, 39, 3, 0, 11, [1023541729, 19, 5120]), (4, 4, 0, 1, 3, []), (5, 45, 0, 0, 0, []), (6, 7, 0, 0, 4, []), (8, 5, 0, 1, 1, []), (9, 4, 0, 1, 3, []), (10, 65, 6159, 252, 2, [35, 0]), (13, 55, 0, 0, 1, []), (16, 6, 0, 1, 0, []), (17, 39, 29, 0, 11, [1409417697, 90, 5146]), (20, 4, 0, 1, 3, []), (21, 45, 0, 0, 0, []), (22, 55, 0, 0, 2, []), (25, 58, 0, 0, 1, [])]
def bX11_hasSay_1 : List In := [(25, 1, 0, 0, 0, []), (26, 61, 0, 0, 0, [])]
def bX11_hasSay_2 : List In := [(27, 6, 0, 1, 0, []), (28, 39, 0, 0, 11, [973210081, 7, 5117]), (31, 4, 0, 1, 3, []), (32, 45, 0, 0, 0, []), (33, 55, 1, 0, 5, []), (36, 6, 0, 1, 0, []), (37, 39, 19, 0, 11, [1241645538, 60, 5136]), (40, 4, 0, 0, 4, []), (42, 46, 0, 0, 0, []), (43, 55, 1, 0, 3, []), (46, 1, 1, 0, 0, []), (47, 57, 0, 0, 4, [])]
def bX11_hasSay_3 : List In := [(50, 1, 0, 0, 0, []), (51, 58, 0, 0, 4, [])]
def bX11_hasSay_4 : List In := [(51, 61, 0, 0, 0, [])]
def bX11_hasSay_5 : List In := [(52, 6, 0, 1, 0, []), (53, 39, 0, 0, 11, [973210081, 7, 5117]), (56, 4, 0, 1, 3, []), (57, 45, 0, 0, 0, []), (58, 1, 6, 1, 0, []), (60, 56, 1, 0, 6, []), (63, 1, 0, 0, 0, []), (64, 61, 0, 0, 0, [])]
def bX11_hasSay_6 : List In := [(65, 1, 0, 0, 0, []), (66, 7, 0, 0, 5, []), (68, 58, 0, 0, 1007, [])]
def bX11_hasSay_7 : List In := [(68, 4, 0, 0, 5, []), (70, 6, 0, 1, 0, []), (71, 37, 10, 0, 11, [214, 5127]), (74, 56, 3, 0, 9, []), (77, 5, 0, 1, 1, []), (78, 4, 0, 0, 5, []), (80, 65, 6159, 252, 2, [35, 0]), (83, 55, 0, 0, 8, []), (86, 6, 0, 1, 0, []), (87, 39, 3, 0, 11, [1023541729, 19, 5120]), (90, 4, 0, 0, 5, []), (92, 45, 0, 0, 0, []), (93, 4, 0, 0, 4, []), (95, 56, 1, 0, 8, []), (98, 6, 0, 1, 0, []), (99, 4, 0, 1, 3, []), (100, 4, 0, 0, 5, []), (102, 75, 6151, 217, 3, [32, 11]), (105, 55, 0, 0, 8, []), (108, 6, 0, 1, 0, []), (109, 4, 0, 1, 3, []), (110, 4, 0, 0, 5, []), (112, 75, 6238, 294, 3, [42, 11]), (115, 55, 0, 0, 8, []), (118, 1, 0, 0, 0, []), (119, 61, 0, 0, 0, [])]
def bX11_hasSay_8 : List In := [(120, 10, 1, 0, 5, []), (123, 57, 0, 0, 1007, [])]
def bX11_hasSay_9 : List In := [(126, 1, 1, 0, 0, []), (127, 61, 0, 0, 0, [])]
def BX11_hasSay : List (List In) := [bX11_hasSay_0, bX11_hasSay_1, bX11_hasSay_2, bX11_hasSay_3, bX11_hasSay_4, bX11_hasSay_5, bX11_hasSay_6, bX11_hasSay_7, bX11_hasSay_8, bX11_hasSay_9]
set_option maxRecDepth 100000 in
theorem mkX11_hasSay : MkB 95 BX11_hasSay := MkB_of (by decide +kernel)
theorem lX11_hasSay : (sgD 95).2.2.1 = 6 := rfl
theorem eX11_hasSay_0 : BX11_hasSay.getD 0 [] = bX11_hasSay_0 := rfl
theorem eX11_hasSay_1 : BX11_hasSay.getD 1 [] = bX11_hasSay_1 := rfl
theorem eX11_hasSay_2 : BX11_hasSay.getD 2 [] = bX11_hasSay_2 := rfl
theorem eX11_hasSay_3 : BX11_hasSay.getD 3 [] = bX11_hasSay_3 := rfl
theorem eX11_hasSay_4 : BX11_hasSay.getD 4 [] = bX11_hasSay_4 := rfl
theorem eX11_hasSay_5 : BX11_hasSay.getD 5 [] = bX11_hasSay_5 := rfl
theorem eX11_hasSay_6 : BX11_hasSay.getD 6 [] = bX11_hasSay_6 := rfl
theorem eX11_hasSay_7 : BX11_hasSay.getD 7 [] = bX11_hasSay_7 := rfl
theorem eX11_hasSay_8 : BX11_hasSay.getD 8 [] = bX11_hasSay_8 := rfl
theorem eX11_hasSay_9 : BX11_hasSay.getD 9 [] = bX11_hasSay_9 := rfl
def bX11_isEdition_0 : List In := [(0, 4, 0, 1, 1, []), (1, 32, 0, 0, 0, []), (2, 2, 0, 0, 0, []), (3, 6, 0, 1, 0, []), (4, 37, 60, 0, 11, [401, 5177]), (7, 1, 1, 0, 0, []), (8, 12, 0, 0, 0, []), (9, 32, 0, 0, 0, []), (10, 65, 6133, 200, 3, [31, 0]), (13, 61, 0, 0, 0, [])]
def BX11_isEdition : List (List In) := [bX11_isEdition_0]
set_option maxRecDepth 100000 in
theorem mkX11_isEdition : MkB 97 BX11_isEdition := MkB_of (by decide +kernel)
theorem lX11_isEdition : (sgD 97).2.2.1 = 2 := rfl
theorem eX11_isEdition_0 : BX11_isEdition.getD 0 [] = bX11_isEdition_0 := rfl
def bX11_isHand_0 : List In := [(0, 4, 0, 1, 0, []), (1, 32, 0, 0, 0, []), (2, 2, 0, 0, 0, []), (3, 2, 5, 1, 0, [198, 6132]), (6, 65, 6133, 200, 3, [31, 0]), (9, 61, 0, 0, 0, [])]
def BX11_isHand : List (List In) := [bX11_isHand_0]
set_option maxRecDepth 100000 in
theorem mkX11_isHand : MkB 98 BX11_isHand := MkB_of (by decide +kernel)
theorem lX11_isHand : (sgD 98).2.2.1 = 1 := rfl
theorem eX11_isHand_0 : BX11_isHand.getD 0 [] = bX11_isHand_0 := rfl
def bX11_isPiece_0 : List In := [(0, 4, 0, 1, 1, []), (1, 32, 0, 0, 0, []), (2, 2, 0, 0, 0, []), (3, 6, 0, 1, 0, []), (4, 37, 10, 0, 11, [214, 5127]), (7, 1, 1, 0, 0, []), (8, 12, 0, 0, 0, []), (9, 32, 0, 0, 0, []), (10, 65, 6133, 200, 3, [31, 0]), (13, 55, 0, 0, 1, []), (16, 6, 0, 1, 0, []), (17, 39, 0, 0, 11, [973210081, 7, 5117]), (20, 4, 0, 1, 1, []), (21, 45, 0, 0, 0, []), (22, 55, 1, 0, 1, []), (25, 1, 1, 0, 0, []), (26, 57, 0, 0, 2, [])]
def bX11_isPiece_1 : List In := [(29, 1, 0, 0, 0, []), (30, 58, 0, 0, 2, [])]
def bX11_isPiece_2 : List In := [(30, 61, 0, 0, 0, [])]
def BX11_isPiece : List (List In) := [bX11_isPiece_0, bX11_isPiece_1, bX11_isPiece_2]
set_option maxRecDepth 100000 in
theorem mkX11_isPiece : MkB 99 BX11_isPiece := MkB_of (by decide +kernel)
theorem lX11_isPiece : (sgD 99).2.2.1 = 2 := rfl
theorem eX11_isPiece_0 : BX11_isPiece.getD 0 [] = bX11_isPiece_0 := rfl
theorem eX11_isPiece_1 : BX11_isPiece.getD 1 [] = bX11_isPiece_1 := rfl
theorem eX11_isPiece_2 : BX11_isPiece.getD 2 [] = bX11_isPiece_2 := rfl
def bX11_isTongue_0 : List In := [(0, 4, 0, 1, 0, []), (1, 32, 0, 0, 0, []), (2, 2, 1, 0, 1, []), (3, 2, 2, 1, 0, [273, 6141]), (6, 65, 6133, 200, 3, [31, 0]), (9, 61, 0, 0, 0, [])]
def BX11_isTongue : List (List In) := [bX11_isTongue_0]
set_option maxRecDepth 100000 in
theorem mkX11_isTongue : MkB 100 BX11_isTongue := MkB_of (by decide +kernel)
theorem lX11_isTongue : (sgD 100).2.2.1 = 1 := rfl
theorem eX11_isTongue_0 : BX11_isTongue.getD 0 [] = bX11_isTongue_0 := rfl
def bX11_leftOf_0 : List In := [(0, 4, 0, 1, 3, []), (1, 6, 0, 1, 0, []), (2, 4, 0, 1, 1, []), (3, 4, 0, 1, 2, []), (4, 75, 7235, 416, 3, [47, 11]), (7, 12, 0, 0, 0, []), (8, 7, 0, 0, 4, []), (10, 4, 0, 1, 1, []), (11, 4, 0, 1, 2, []), (12, 11, 0, 0, 0, []), (13, 6, 0, 1, 0, []), (14, 37, 78, 0, 11, [404, 5195]), (17, 56, 1, 0, 1, []), (20, 1, 0, 0, 0, []), (21, 57, 0, 0, 2, [])]
def bX11_leftOf_1 : List In := [(24, 4, 0, 0, 4, []), (26, 4, 0, 0, 4, []), (28, 13, 0, 0, 0, []), (29, 58, 0, 0, 2, [])]
def bX11_leftOf_2 : List In := [(29, 60, 0, 0, 0, [])]
def BX11_leftOf : List (List In) := [bX11_leftOf_0, bX11_leftOf_1, bX11_leftOf_2]
set_option maxRecDepth 100000 in
theorem mkX11_leftOf : MkB 101 BX11_leftOf := MkB_of (by decide +kernel)
theorem lX11_leftOf : (sgD 101).2.2.1 = 5 := rfl
theorem eX11_leftOf_0 : BX11_leftOf.getD 0 [] = bX11_leftOf_0 := rfl
theorem eX11_leftOf_1 : BX11_leftOf.getD 1 [] = bX11_leftOf_1 := rfl
theorem eX11_leftOf_2 : BX11_leftOf.getD 2 [] = bX11_leftOf_2 := rfl
def bX11_make_0 : List In := [(0, 6, 0, 1, 0, []), (1, 37, 10, 0, 11, [214, 5127]), (4, 7, 0, 0, 6, []), (6, 1, 0, 0, 0, []), (7, 7, 0, 0, 7, []), (9, 1, 0, 0, 0, []), (10, 7, 0, 0, 8, []), (12, 58, 0, 0, 1001, [])]
def bX11_make_1 : List In := [(12, 4, 0, 0, 8, []), (14, 6, 0, 1, 0, []), (15, 37, 10, 0, 11, [214, 5127]), (18, 56, 3, 0, 4, []), (21, 6, 0, 1, 0, []), (22, 39, 11, 0, 11, [1140981811, 40, 5128]), (25, 4, 0, 1, 1, []), (26, 47, 0, 0, 0, []), (27, 4, 0, 0, 8, []), (29, 65, 6159, 252, 2, [35, 0]), (32, 55, 0, 0, 2, []), (35, 6, 0, 1, 0, []), (36, 39, 2, 0, 11, [1006764513, 16, 5119]), (39, 4, 0, 0, 8, []), (41, 45, 0, 0, 0, []), (42, 4, 0, 0, 7, []), (44, 56, 5, 0, 2, []), (47, 6, 0, 1, 0, []), (48, 39, 2, 0, 11, [1006764513, 16, 5119]), (51, 4, 0, 0, 8, []), (53, 45, 0, 0, 0, []), (54, 57, 0, 0, 3, [])]
def bX11_make_2 : List In := [(57, 4, 0, 0, 7, []), (59, 58, 0, 0, 3, [])]
def bX11_make_3 : List In := [(59, 7, 0, 0, 7, []), (61, 10, 1, 0, 8, []), (64, 57, 0, 0, 1001, [])]
def bX11_make_4 : List In := [(67, 6, 0, 1, 0, []), (68, 39, 0, 0, 11, [973210081, 7, 5117]), (71, 4, 0, 0, 6, []), (73, 4, 0, 1, 2, []), (74, 50, 0, 0, 0, []), (75, 6, 0, 1, 0, []), (76, 39, 1, 0, 11, [989987297, 13, 5118]), (79, 4, 0, 0, 6, []), (81, 4, 0, 1, 1, []), (82, 50, 0, 0, 0, []), (83, 6, 0, 1, 0, []), (84, 39, 2, 0, 11, [1006764513, 16, 5119]), (87, 4, 0, 0, 6, []), (89, 4, 0, 0, 7, []), (91, 1, 1, 0, 0, []), (92, 11, 0, 0, 0, []), (93, 50, 0, 0, 0, []), (94, 6, 0, 1, 0, []), (95, 39, 3, 0, 11, [1023541729, 19, 5120]), (98, 4, 0, 0, 6, []), (100, 4, 0, 1, 3, []), (101, 50, 0, 0, 0, []), (102, 6, 0, 1, 0, []), (103, 39, 4, 0, 11, [1040318945, 22, 5121]), (106, 4, 0, 0, 6, []), (108, 4, 0, 0, 4, []), (110, 50, 0, 0, 0, []), (111, 6, 0, 1, 0, []), (112, 39, 5, 0, 11, [1057096161, 25, 5122]), (115, 4, 0, 0, 6, []), (117, 4, 0, 0, 5, []), (119, 50, 0, 0, 0, []), (120, 6, 0, 1, 0, []), (121, 39, 6, 0, 11, [1073873377, 28, 5123]), (124, 4, 0, 0, 6, []), (126, 1, -6, 1, 0, []), (128, 50, 0, 0, 0, []), (129, 6, 0, 1, 0, []), (130, 39, 7, 0, 11, [1090650593, 31, 5124]), (133, 4, 0, 0, 6, []), (135, 1, -6, 1, 0, []), (137, 50, 0, 0, 0, []), (138, 6, 0, 1, 0, []), (139, 39, 8, 0, 11, [1107427809, 34, 5125]), (142, 4, 0, 0, 6, []), (144, 1, 0, 0, 0, []), (145, 50, 0, 0, 0, []), (146, 6, 0, 1, 0, []), (147, 35, 0, 0, 0, []), (148, 37, 10, 0, 11, [214, 5127]), (151, 1, 1, 0, 0, []), (152, 11, 0, 0, 0, []), (153, 42, 10, 0, 11, [214, 5127]), (156, 6, 0, 1, 0, []), (157, 39, 11, 0, 11, [1140981811, 40, 5128]), (160, 4, 0, 1, 1, []), (161, 36, 0, 0, 0, []), (162, 47, 0, 0, 0, []), (163, 2, 1, 0, 1, []), (164, 4, 0, 0, 6, []), (166, 29, 0, 0, 0, []), (167, 27, 0, 0, 0, []), (168, 52, 0, 0, 0, []), (169, 4, 0, 0, 6, []), (171, 60, 0, 0, 0, [])]
def BX11_make : List (List In) := [bX11_make_0, bX11_make_1, bX11_make_2, bX11_make_3, bX11_make_4]
set_option maxRecDepth 100000 in
theorem mkX11_make : MkB 102 BX11_make := MkB_of (by decide +kernel)
theorem lX11_make : (sgD 102).2.2.1 = 9 := rfl
theorem eX11_make_0 : BX11_make.getD 0 [] = bX11_make_0 := rfl
theorem eX11_make_1 : BX11_make.getD 1 [] = bX11_make_1 := rfl
theorem eX11_make_2 : BX11_make.getD 2 [] = bX11_make_2 := rfl
theorem eX11_make_3 : BX11_make.getD 3 [] = bX11_make_3 := rfl
theorem eX11_make_4 : BX11_make.getD 4 [] = bX11_make_4 := rfl
def bX11_ones_0 : List In := [(0, 1, 0, 0, 0, []), (1, 7, 0, 1, 2, []), (2, 1, 0, 0, 0, []), (3, 7, 0, 1, 3, []), (4, 58, 0, 0, 1001, [])]
def bX11_ones_1 : List In := [(4, 4, 0, 1, 3, []), (5, 1, 60, 1, 0, []), (7, 56, 3, 0, 4, []), (10, 4, 0, 1, 2, []), (11, 5, 0, 1, 0, []), (12, 4, 0, 1, 3, []), (13, 65, 6159, 252, 2, [35, 0]), (16, 55, 0, 0, 2, []), (19, 1, 1, 0, 0, []), (20, 57, 0, 0, 3, [])]
def bX11_ones_2 : List In := [(23, 1, 0, 0, 0, []), (24, 58, 0, 0, 3, [])]
def bX11_ones_3 : List In := [(24, 11, 0, 0, 0, []), (25, 7, 0, 1, 2, []), (26, 10, 1, 0, 3, []), (29, 57, 0, 0, 1001, [])]
def bX11_ones_4 : List In := [(32, 4, 0, 1, 2, []), (33, 60, 0, 0, 0, [])]
def BX11_ones : List (List In) := [bX11_ones_0, bX11_ones_1, bX11_ones_2, bX11_ones_3, bX11_ones_4]
set_option maxRecDepth 100000 in
theorem mkX11_ones : MkB 103 BX11_ones := MkB_of (by decide +kernel)
theorem lX11_ones : (sgD 103).2.2.1 = 4 := rfl
theorem eX11_ones_0 : BX11_ones.getD 0 [] = bX11_ones_0 := rfl
theorem eX11_ones_1 : BX11_ones.getD 1 [] = bX11_ones_1 := rfl
theorem eX11_ones_2 : BX11_ones.getD 2 [] = bX11_ones_2 := rfl
theorem eX11_ones_3 : BX11_ones.getD 3 [] = bX11_ones_3 := rfl
theorem eX11_ones_4 : BX11_ones.getD 4 [] = bX11_ones_4 := rfl
def bX11_pair_0 : List In := [(0, 4, 0, 1, 1, []), (1, 32, 0, 0, 0, []), (2, 2, 0, 0, 0, []), (3, 6, 0, 1, 0, []), (4, 37, 50, 0, 11, [371, 5167]), (7, 1, 1, 0, 0, []), (8, 12, 0, 0, 0, []), (9, 32, 0, 0, 0, []), (10, 65, 6133, 200, 3, [31, 0]), (13, 55, 1, 0, 1, []), (16, 1, -1, 0, 0, []), (17, 60, 0, 0, 0, [])]
def bX11_pair_1 : List In := [(18, 4, 0, 1, 2, []), (19, 32, 0, 0, 0, []), (20, 2, 0, 0, 0, []), (21, 2, 1, 0, 1, []), (22, 65, 6133, 200, 3, [31, 0]), (25, 55, 1, 0, 2, []), (28, 1, -2, 1, 0, []), (30, 60, 0, 0, 0, [])]
def bX11_pair_2 : List In := [(31, 4, 0, 1, 3, []), (32, 32, 0, 0, 0, []), (33, 2, 0, 0, 0, []), (34, 6, 0, 1, 0, []), (35, 39, 48, 0, 11, [1644298625, 132, 5165]), (38, 1, 2, 0, 0, []), (39, 4, 0, 1, 1, []), (40, 13, 0, 0, 0, []), (41, 4, 0, 1, 2, []), (42, 11, 0, 0, 0, []), (43, 45, 0, 0, 0, []), (44, 1, 1, 0, 0, []), (45, 12, 0, 0, 0, []), (46, 32, 0, 0, 0, []), (47, 65, 6133, 200, 3, [31, 0]), (50, 55, 0, 0, 3, []), (53, 6, 0, 1, 0, []), (54, 39, 49, 0, 11, [1661078529, 135, 5166]), (57, 1, 16, 1, 0, []), (59, 4, 0, 1, 1, []), (60, 13, 0, 0, 0, []), (61, 1, 8, 1, 0, []), (63, 4, 0, 1, 2, []), (64, 13, 0, 0, 0, []), (65, 11, 0, 0, 0, []), (66, 4, 0, 1, 3, []), (67, 11, 0, 0, 0, []), (68, 45, 0, 0, 0, []), (69, 57, 0, 0, 4, [])]
def bX11_pair_3 : List In := [(72, 1, -6, 1, 0, []), (74, 58, 0, 0, 4, [])]
def bX11_pair_4 : List In := [(74, 60, 0, 0, 0, [])]
def BX11_pair : List (List In) := [bX11_pair_0, bX11_pair_1, bX11_pair_2, bX11_pair_3, bX11_pair_4]
set_option maxRecDepth 100000 in
theorem mkX11_pair : MkB 104 BX11_pair := MkB_of (by decide +kernel)
theorem lX11_pair : (sgD 104).2.2.1 = 4 := rfl
theorem eX11_pair_0 : BX11_pair.getD 0 [] = bX11_pair_0 := rfl
theorem eX11_pair_1 : BX11_pair.getD 1 [] = bX11_pair_1 := rfl
theorem eX11_pair_2 : BX11_pair.getD 2 [] = bX11_pair_2 := rfl
theorem eX11_pair_3 : BX11_pair.getD 3 [] = bX11_pair_3 := rfl
theorem eX11_pair_4 : BX11_pair.getD 4 [] = bX11_pair_4 := rfl
def bX11_putIn_0 : List In := [(0, 4, 0, 1, 3, []), (1, 7, 0, 0, 4, []), (3, 4, 0, 1, 3, []), (4, 55, 2, 0, 3, []), (7, 6, 0, 1, 0, []), (8, 39, 18, 0, 11, [1224868322, 56, 5135]), (11, 4, 0, 1, 3, []), (12, 46, 0, 0, 0, []), (13, 55, 0, 0, 1, []), (16, 6, 0, 1, 0, []), (17, 39, 20, 0, 11, [1258422753, 63, 5137]), (20, 4, 0, 1, 3, []), (21, 45, 0, 0, 0, []), (22, 4, 0, 1, 2, []), (23, 56, 1, 0, 1, []), (26, 4, 0, 1, 3, []), (27, 4, 0, 1, 1, []), (28, 56, 1, 0, 3, []), (31, 58, 0, 0, 1, [])]
def bX11_putIn_1 : List In := [(31, 1, -1, 0, 0, []), (32, 7, 0, 0, 4, []), (34, 6, 0, 1, 0, []), (35, 39, 21, 0, 11, [1275199977, 66, 5138]), (38, 4, 0, 1, 2, []), (39, 65, 6174, 221, 1, [30, 0]), (42, 45, 0, 0, 0, []), (43, 7, 0, 0, 5, []), (45, 58, 0, 0, 1002, [])]
def bX11_putIn_2 : List In := [(45, 4, 0, 0, 5, []), (47, 55, 2, 0, 3, []), (50, 4, 0, 0, 5, []), (52, 7, 0, 0, 4, []), (54, 6, 0, 1, 0, []), (55, 39, 22, 0, 11, [1291977185, 69, 5139]), (58, 4, 0, 0, 5, []), (60, 45, 0, 0, 0, []), (61, 7, 0, 0, 5, []), (63, 57, 0, 0, 1002, [])]
def bX11_putIn_3 : List In := [(66, 6, 0, 1, 0, []), (67, 39, 20, 0, 11, [1258422753, 63, 5137]), (70, 4, 0, 1, 1, []), (71, 4, 0, 1, 2, []), (72, 50, 0, 0, 0, []), (73, 6, 0, 1, 0, []), (74, 39, 23, 0, 11, [1308754401, 72, 5140]), (77, 4, 0, 1, 1, []), (78, 4, 0, 0, 4, []), (80, 50, 0, 0, 0, []), (81, 6, 0, 1, 0, []), (82, 39, 22, 0, 11, [1291977185, 69, 5139]), (85, 4, 0, 1, 1, []), (86, 4, 0, 0, 4, []), (88, 55, 3, 0, 4, []), (91, 6, 0, 1, 0, []), (92, 39, 21, 0, 11, [1275199977, 66, 5138]), (95, 4, 0, 1, 2, []), (96, 65, 6174, 221, 1, [30, 0]), (99, 45, 0, 0, 0, []), (100, 57, 0, 0, 5, [])]
def bX11_putIn_4 : List In := [(103, 6, 0, 1, 0, []), (104, 39, 22, 0, 11, [1291977185, 69, 5139]), (107, 4, 0, 0, 4, []), (109, 45, 0, 0, 0, []), (110, 58, 0, 0, 5, [])]
def bX11_putIn_5 : List In := [(110, 50, 0, 0, 0, []), (111, 4, 0, 0, 4, []), (113, 55, 3, 0, 6, []), (116, 6, 0, 1, 0, []), (117, 39, 21, 0, 11, [1275199977, 66, 5138]), (120, 4, 0, 1, 2, []), (121, 65, 6174, 221, 1, [30, 0]), (124, 4, 0, 1, 1, []), (125, 50, 0, 0, 0, []), (126, 57, 0, 0, 7, [])]
def bX11_putIn_6 : List In := [(129, 6, 0, 1, 0, []), (130, 39, 22, 0, 11, [1291977185, 69, 5139]), (133, 4, 0, 0, 4, []), (135, 4, 0, 1, 1, []), (136, 50, 0, 0, 0, []), (137, 58, 0, 0, 7, [])]
def bX11_putIn_7 : List In := [(137, 6, 0, 1, 0, []), (138, 39, 22, 0, 11, [1291977185, 69, 5139]), (141, 4, 0, 1, 1, []), (142, 45, 0, 0, 0, []), (143, 55, 2, 0, 8, []), (146, 6, 0, 1, 0, []), (147, 39, 23, 0, 11, [1308754401, 72, 5140]), (150, 6, 0, 1, 0, []), (151, 39, 22, 0, 11, [1291977185, 69, 5139]), (154, 4, 0, 1, 1, []), (155, 45, 0, 0, 0, []), (156, 4, 0, 1, 1, []), (157, 50, 0, 0, 0, []), (158, 58, 0, 0, 8, [])]
def bX11_putIn_8 : List In := [(158, 64, 0, 0, 0, [])]
def BX11_putIn : List (List In) := [bX11_putIn_0, bX11_putIn_1, bX11_putIn_2, bX11_putIn_3, bX11_putIn_4, bX11_putIn_5, bX11_putIn_6, bX11_putIn_7, bX11_putIn_8]
set_option maxRecDepth 100000 in
theorem mkX11_putIn : MkB 105 BX11_putIn := MkB_of (by decide +kernel)
theorem lX11_putIn : (sgD 105).2.2.1 = 6 := rfl
theorem eX11_putIn_0 : BX11_putIn.getD 0 [] = bX11_putIn_0 := rfl
theorem eX11_putIn_1 : BX11_putIn.getD 1 [] = bX11_putIn_1 := rfl
theorem eX11_putIn_2 : BX11_putIn.getD 2 [] = bX11_putIn_2 := rfl
theorem eX11_putIn_3 : BX11_putIn.getD 3 [] = bX11_putIn_3 := rfl
theorem eX11_putIn_4 : BX11_putIn.getD 4 [] = bX11_putIn_4 := rfl
theorem eX11_putIn_5 : BX11_putIn.getD 5 [] = bX11_putIn_5 := rfl
theorem eX11_putIn_6 : BX11_putIn.getD 6 [] = bX11_putIn_6 := rfl
theorem eX11_putIn_7 : BX11_putIn.getD 7 [] = bX11_putIn_7 := rfl
theorem eX11_putIn_8 : BX11_putIn.getD 8 [] = bX11_putIn_8 := rfl
def bX11_readAll_0 : List In := [(0, 6, 0, 1, 0, []), (1, 1, 0, 0, 0, []), (2, 42, 33, 0, 11, [259, 5150]), (5, 6, 0, 1, 0, []), (6, 39, 21, 0, 11, [1275199977, 66, 5138]), (9, 1, 60, 1, 0, []), (11, 45, 0, 0, 0, []), (12, 7, 0, 1, 1, []), (13, 58, 0, 0, 1001, [])]
def bX11_readAll_1 : List In := [(13, 4, 0, 1, 1, []), (14, 55, 2, 0, 8, []), (17, 6, 0, 1, 0, []), (18, 4, 0, 1, 1, []), (19, 75, 7052, 262, 2, [38, 11]), (22, 7, 0, 1, 2, []), (23, 4, 0, 1, 2, []), (24, 55, 0, 0, 2, []), (27, 6, 0, 1, 0, []), (28, 39, 32, 0, 11, [1459749345, 99, 5149]), (31, 6, 0, 1, 0, []), (32, 37, 33, 0, 11, [259, 5150]), (35, 4, 0, 1, 1, []), (36, 50, 0, 0, 0, []), (37, 6, 0, 1, 0, []), (38, 35, 0, 0, 0, []), (39, 37, 33, 0, 11, [259, 5150]), (42, 1, 1, 0, 0, []), (43, 11, 0, 0, 0, []), (44, 42, 33, 0, 11, [259, 5150]), (47, 58, 0, 0, 2, [])]
def bX11_readAll_2 : List In := [(47, 4, 0, 1, 2, []), (48, 55, 0, 0, 1003, []), (51, 6, 0, 1, 0, []), (52, 39, 21, 0, 11, [1275199977, 66, 5138]), (55, 4, 0, 1, 1, []), (56, 45, 0, 0, 0, []), (57, 55, 2, 0, 1003, []), (60, 6, 0, 1, 0, []), (61, 39, 21, 0, 11, [1275199977, 66, 5138]), (64, 4, 0, 1, 1, []), (65, 45, 0, 0, 0, []), (66, 7, 0, 1, 1, []), (67, 57, 0, 0, 7, [])]
def bX11_readAll_3 : List In := [(70, 4, 0, 1, 1, []), (71, 55, 2, 0, 4, []), (74, 6, 0, 1, 0, []), (75, 39, 22, 0, 11, [1291977185, 69, 5139]), (78, 4, 0, 1, 1, []), (79, 45, 0, 0, 0, []), (80, 55, 3, 0, 4, []), (83, 6, 0, 1, 0, []), (84, 39, 20, 0, 11, [1258422753, 63, 5137]), (87, 4, 0, 1, 1, []), (88, 45, 0, 0, 0, []), (89, 7, 0, 1, 1, []), (90, 57, 0, 0, 1003, [])]
def bX11_readAll_4 : List In := [(93, 4, 0, 1, 1, []), (94, 55, 3, 0, 5, []), (97, 1, -1, 0, 0, []), (98, 57, 0, 0, 6, [])]
def bX11_readAll_5 : List In := [(101, 6, 0, 1, 0, []), (102, 39, 22, 0, 11, [1291977185, 69, 5139]), (105, 4, 0, 1, 1, []), (106, 45, 0, 0, 0, []), (107, 58, 0, 0, 6, [])]
def bX11_readAll_6 : List In := [(107, 7, 0, 1, 1, []), (108, 58, 0, 0, 7, [])]
def bX11_readAll_7 : List In := [(108, 57, 0, 0, 1001, [])]
def bX11_readAll_8 : List In := [(111, 64, 0, 0, 0, [])]
def BX11_readAll : List (List In) := [bX11_readAll_0, bX11_readAll_1, bX11_readAll_2, bX11_readAll_3, bX11_readAll_4, bX11_readAll_5, bX11_readAll_6, bX11_readAll_7, bX11_readAll_8]
set_option maxRecDepth 100000 in
theorem mkX11_readAll : MkB 106 BX11_readAll := MkB_of (by decide +kernel)
theorem lX11_readAll : (sgD 106).2.2.1 = 3 := rfl
theorem eX11_readAll_0 : BX11_readAll.getD 0 [] = bX11_readAll_0 := rfl
theorem eX11_readAll_1 : BX11_readAll.getD 1 [] = bX11_readAll_1 := rfl
theorem eX11_readAll_2 : BX11_readAll.getD 2 [] = bX11_readAll_2 := rfl
theorem eX11_readAll_3 : BX11_readAll.getD 3 [] = bX11_readAll_3 := rfl
theorem eX11_readAll_4 : BX11_readAll.getD 4 [] = bX11_readAll_4 := rfl
theorem eX11_readAll_5 : BX11_readAll.getD 5 [] = bX11_readAll_5 := rfl
theorem eX11_readAll_6 : BX11_readAll.getD 6 [] = bX11_readAll_6 := rfl
theorem eX11_readAll_7 : BX11_readAll.getD 7 [] = bX11_readAll_7 := rfl
theorem eX11_readAll_8 : BX11_readAll.getD 8 [] = bX11_readAll_8 := rfl
def bX11_sort_0 : List In := [(0, 1, 0, 0, 0, []), (1, 7, 0, 1, 1, []), (2, 58, 0, 0, 1001, [])]
def bX11_sort_1 : List In := [(2, 4, 0, 1, 1, []), (3, 6, 0, 1, 0, []), (4, 37, 10, 0, 11, [214, 5127]), (7, 56, 3, 0, 4, []), (10, 4, 0, 1, 1, []), (11, 7, 0, 1, 2, []), (12, 58, 0, 0, 1002, [])]
def bX11_sort_2 : List In := [(12, 4, 0, 1, 2, []), (13, 55, 5, 0, 3, []), (16, 6, 0, 1, 0, []), (17, 4, 0, 1, 1, []), (18, 6, 0, 1, 0, []), (19, 39, 17, 0, 11, [1208091105, 53, 5134]), (22, 4, 0, 1, 2, []), (23, 1, 1, 0, 0, []), (24, 12, 0, 0, 0, []), (25, 45, 0, 0, 0, []), (26, 75, 6151, 217, 3, [32, 11]), (29, 55, 0, 0, 3, []), (32, 6, 0, 1, 0, []), (33, 39, 17, 0, 11, [1208091105, 53, 5134]), (36, 4, 0, 1, 2, []), (37, 6, 0, 1, 0, []), (38, 39, 17, 0, 11, [1208091105, 53, 5134]), (41, 4, 0, 1, 2, []), (42, 1, 1, 0, 0, []), (43, 12, 0, 0, 0, []), (44, 45, 0, 0, 0, []), (45, 50, 0, 0, 0, []), (46, 10, -1, 0, 2, []), (49, 57, 0, 0, 1002, [])]
def bX11_sort_3 : List In := [(52, 6, 0, 1, 0, []), (53, 39, 17, 0, 11, [1208091105, 53, 5134]), (56, 4, 0, 1, 2, []), (57, 4, 0, 1, 1, []), (58, 50, 0, 0, 0, []), (59, 10, 1, 0, 1, []), (62, 57, 0, 0, 1001, [])]
def bX11_sort_4 : List In := [(65, 64, 0, 0, 0, [])]
def BX11_sort : List (List In) := [bX11_sort_0, bX11_sort_1, bX11_sort_2, bX11_sort_3, bX11_sort_4]
set_option maxRecDepth 100000 in
theorem mkX11_sort : MkB 107 BX11_sort := MkB_of (by decide +kernel)
theorem lX11_sort : (sgD 107).2.2.1 = 3 := rfl
theorem eX11_sort_0 : BX11_sort.getD 0 [] = bX11_sort_0 := rfl
theorem eX11_sort_1 : BX11_sort.getD 1 [] = bX11_sort_1 := rfl
theorem eX11_sort_2 : BX11_sort.getD 2 [] = bX11_sort_2 := rfl
theorem eX11_sort_3 : BX11_sort.getD 3 [] = bX11_sort_3 := rfl
theorem eX11_sort_4 : BX11_sort.getD 4 [] = bX11_sort_4 := rfl
def bX11_takeOut_0 : List In := [(0, 6, 0, 1, 0, []), (1, 39, 23, 0, 11, [1308754401, 72, 5140]), (4, 4, 0, 1, 1, []), (5, 45, 0, 0, 0, []), (6, 55, 3, 0, 1, []), (9, 6, 0, 1, 0, []), (10, 39, 21, 0, 11, [1275199977, 66, 5138]), (13, 6, 0, 1, 0, []), (14, 39, 20, 0, 11, [1258422753, 63, 5137]), (17, 4, 0, 1, 1, []), (18, 45, 0, 0, 0, []), (19, 65, 6174, 221, 1, [30, 0]), (22, 6, 0, 1, 0, []), (23, 39, 22, 0, 11, [1291977185, 69, 5139]), (26, 4, 0, 1, 1, []), (27, 45, 0, 0, 0, []), (28, 50, 0, 0, 0, []), (29, 57, 0, 0, 2, [])]
def bX11_takeOut_1 : List In := [(32, 6, 0, 1, 0, []), (33, 39, 22, 0, 11, [1291977185, 69, 5139]), (36, 6, 0, 1, 0, []), (37, 39, 23, 0, 11, [1308754401, 72, 5140]), (40, 4, 0, 1, 1, []), (41, 45, 0, 0, 0, []), (42, 6, 0, 1, 0, []), (43, 39, 22, 0, 11, [1291977185, 69, 5139]), (46, 4, 0, 1, 1, []), (47, 45, 0, 0, 0, []), (48, 50, 0, 0, 0, []), (49, 58, 0, 0, 2, [])]
def bX11_takeOut_2 : List In := [(49, 6, 0, 1, 0, []), (50, 39, 22, 0, 11, [1291977185, 69, 5139]), (53, 4, 0, 1, 1, []), (54, 45, 0, 0, 0, []), (55, 55, 2, 0, 3, []), (58, 6, 0, 1, 0, []), (59, 39, 23, 0, 11, [1308754401, 72, 5140]), (62, 6, 0, 1, 0, []), (63, 39, 22, 0, 11, [1291977185, 69, 5139]), (66, 4, 0, 1, 1, []), (67, 45, 0, 0, 0, []), (68, 6, 0, 1, 0, []), (69, 39, 23, 0, 11, [1308754401, 72, 5140]), (72, 4, 0, 1, 1, []), (73, 45, 0, 0, 0, []), (74, 50, 0, 0, 0, []), (75, 58, 0, 0, 3, [])]
def bX11_takeOut_3 : List In := [(75, 64, 0, 0, 0, [])]
def BX11_takeOut : List (List In) := [bX11_takeOut_0, bX11_takeOut_1, bX11_takeOut_2, bX11_takeOut_3]
set_option maxRecDepth 100000 in
theorem mkX11_takeOut : MkB 108 BX11_takeOut := MkB_of (by decide +kernel)
theorem lX11_takeOut : (sgD 108).2.2.1 = 2 := rfl
theorem eX11_takeOut_0 : BX11_takeOut.getD 0 [] = bX11_takeOut_0 := rfl
theorem eX11_takeOut_1 : BX11_takeOut.getD 1 [] = bX11_takeOut_1 := rfl
theorem eX11_takeOut_2 : BX11_takeOut.getD 2 [] = bX11_takeOut_2 := rfl
theorem eX11_takeOut_3 : BX11_takeOut.getD 3 [] = bX11_takeOut_3 := rfl
def bX11_tells_0 : List In := [(0, 6, 0, 1, 0, []), (1, 39, 6, 0, 11, [1073873377, 28, 5123]), (4, 4, 0, 1, 1, []), (5, 45, 0, 0, 0, []), (6, 1, 1, 0, 0, []), (7, 56, 1, 0, 1, []), (10, 6, 0, 1, 0, []), (11, 39, 28, 0, 11, [1392640481, 87, 5145]), (14, 4, 0, 1, 1, []), (15, 45, 0, 0, 0, []), (16, 55, 2, 0, 1, []), (19, 6, 0, 1, 0, []), (20, 6, 0, 1, 0, []), (21, 39, 28, 0, 11, [1392640481, 87, 5145]), (24, 4, 0, 1, 1, []), (25, 45, 0, 0, 0, []), (26, 75, 7052, 262, 2, [38, 11]), (29, 55, 0, 0, 1, []), (32, 1, 1, 0, 0, []), (33, 57, 0, 0, 2, [])]
def bX11_tells_1 : List In := [(36, 1, 0, 0, 0, []), (37, 58, 0, 0, 2, [])]
def bX11_tells_2 : List In := [(37, 61, 0, 0, 0, [])]
def BX11_tells : List (List In) := [bX11_tells_0, bX11_tells_1, bX11_tells_2]
set_option maxRecDepth 100000 in
theorem mkX11_tells : MkB 109 BX11_tells := MkB_of (by decide +kernel)
theorem lX11_tells : (sgD 109).2.2.1 = 2 := rfl
theorem eX11_tells_0 : BX11_tells.getD 0 [] = bX11_tells_0 := rfl
theorem eX11_tells_1 : BX11_tells.getD 1 [] = bX11_tells_1 := rfl
theorem eX11_tells_2 : BX11_tells.getD 2 [] = bX11_tells_2 := rfl
def bX11_apply_0 : List In := [(0, 6, 0, 1, 0, []), (1, 39, 3, 0, 11, [1023541729, 19, 5120]), (4, 4, 0, 1, 1, []), (5, 45, 0, 0, 0, []), (6, 7, 0, 1, 2, []), (7, 6, 0, 1, 0, []), (8, 39, 0, 0, 11, [973210081, 7, 5117]), (11, 4, 0, 1, 1, []), (12, 45, 0, 0, 0, []), (13, 55, 1, 0, 2, []), (16, 6, 0, 1, 0, []), (17, 6, 0, 1, 0, []), (18, 39, 4, 0, 11, [1040318945, 22, 5121]), (21, 4, 0, 1, 1, []), (22, 45, 0, 0, 0, []), (23, 75, 6166, 225, 2, [25, 11]), (26, 55, 1, 0, 1, []), (29, 1, 1, 0, 0, []), (30, 60, 0, 0, 0, [])]
def bX11_apply_1 : List In := [(31, 6, 0, 1, 0, []), (32, 4, 0, 1, 2, []), (33, 6, 0, 1, 0, []), (34, 39, 4, 0, 11, [1040318945, 22, 5121]), (37, 4, 0, 1, 1, []), (38, 45, 0, 0, 0, []), (39, 6, 0, 1, 0, []), (40, 39, 5, 0, 11, [1057096161, 25, 5122]), (43, 4, 0, 1, 1, []), (44, 45, 0, 0, 0, []), (45, 79, 6170, 228, 4, [105, 11]), (48, 6, 0, 1, 0, []), (49, 39, 18, 0, 11, [1224868322, 56, 5135]), (52, 4, 0, 1, 2, []), (53, 1, 1, 0, 0, []), (54, 51, 0, 0, 0, []), (55, 1, 0, 0, 0, []), (56, 60, 0, 0, 0, [])]
def bX11_apply_2 : List In := [(57, 6, 0, 1, 0, []), (58, 39, 18, 0, 11, [1224868322, 56, 5135]), (61, 4, 0, 1, 2, []), (62, 46, 0, 0, 0, []), (63, 55, 0, 0, 3, []), (66, 6, 0, 1, 0, []), (67, 39, 0, 0, 11, [973210081, 7, 5117]), (70, 4, 0, 1, 1, []), (71, 45, 0, 0, 0, []), (72, 1, 2, 0, 0, []), (73, 56, 1, 0, 4, []), (76, 6, 0, 1, 0, []), (77, 6, 0, 1, 0, []), (78, 39, 4, 0, 11, [1040318945, 22, 5121]), (81, 4, 0, 1, 1, []), (82, 45, 0, 0, 0, []), (83, 75, 6166, 225, 2, [25, 11]), (86, 55, 1, 0, 4, []), (89, 58, 0, 0, 3, [])]
def bX11_apply_3 : List In := [(89, 1, 1, 0, 0, []), (90, 60, 0, 0, 0, [])]
def bX11_apply_4 : List In := [(91, 6, 0, 1, 0, []), (92, 39, 0, 0, 11, [973210081, 7, 5117]), (95, 4, 0, 1, 1, []), (96, 45, 0, 0, 0, []), (97, 59, 1, 5, 15, [5, 6, 10, 13, 14])]
def bX11_apply_5 : List In := [(132, 6, 0, 1, 0, []), (133, 39, 19, 0, 11, [1241645538, 60, 5136]), (136, 4, 0, 1, 2, []), (137, 1, 1, 0, 0, []), (138, 51, 0, 0, 0, []), (139, 1, 0, 0, 0, []), (140, 60, 0, 0, 0, [])]
def bX11_apply_6 : List In := [(141, 6, 0, 1, 0, []), (142, 39, 4, 0, 11, [1040318945, 22, 5121]), (145, 4, 0, 1, 1, []), (146, 45, 0, 0, 0, []), (147, 1, -1, 0, 0, []), (148, 56, 0, 0, 7, []), (151, 6, 0, 1, 0, []), (152, 6, 0, 1, 0, []), (153, 39, 4, 0, 11, [1040318945, 22, 5121]), (156, 4, 0, 1, 1, []), (157, 45, 0, 0, 0, []), (158, 4, 0, 1, 2, []), (159, 75, 6177, 232, 3, [39, 11]), (162, 55, 0, 0, 7, []), (165, 1, 2, 0, 0, []), (166, 60, 0, 0, 0, [])]
def bX11_apply_7 : List In := [(167, 6, 0, 1, 0, []), (168, 4, 0, 1, 2, []), (169, 79, 6181, 235, 2, [108, 11]), (172, 6, 0, 1, 0, []), (173, 4, 0, 1, 2, []), (174, 6, 0, 1, 0, []), (175, 39, 4, 0, 11, [1040318945, 22, 5121]), (178, 4, 0, 1, 1, []), (179, 45, 0, 0, 0, []), (180, 6, 0, 1, 0, []), (181, 39, 5, 0, 11, [1057096161, 25, 5122]), (184, 4, 0, 1, 1, []), (185, 45, 0, 0, 0, []), (186, 79, 6170, 228, 4, [105, 11]), (189, 6, 0, 1, 0, []), (190, 39, 19, 0, 11, [1241645538, 60, 5136]), (193, 4, 0, 1, 2, []), (194, 6, 0, 1, 0, []), (195, 39, 19, 0, 11, [1241645538, 60, 5136]), (198, 4, 0, 1, 2, []), (199, 46, 0, 0, 0, []), (200, 55, 0, 0, 8, []), (203, 6, 0, 1, 0, []), (204, 37, 16, 0, 11, [239, 5133]), (207, 1, 1, 0, 0, []), (208, 56, 1, 0, 8, []), (211, 1, 1, 0, 0, []), (212, 57, 0, 0, 9, [])]
def bX11_apply_8 : List In := [(215, 1, 0, 0, 0, []), (216, 58, 0, 0, 9, [])]
def bX11_apply_9 : List In := [(216, 51, 0, 0, 0, []), (217, 1, 0, 0, 0, []), (218, 60, 0, 0, 0, [])]
def bX11_apply_10 : List In := [(219, 6, 0, 1, 0, []), (220, 4, 0, 1, 1, []), (221, 4, 0, 1, 2, []), (222, 79, 6185, 242, 3, [44, 11]), (225, 6, 0, 1, 0, []), (226, 39, 19, 0, 11, [1241645538, 60, 5136]), (229, 4, 0, 1, 2, []), (230, 6, 0, 1, 0, []), (231, 39, 19, 0, 11, [1241645538, 60, 5136]), (234, 4, 0, 1, 2, []), (235, 46, 0, 0, 0, []), (236, 55, 0, 0, 11, []), (239, 6, 0, 1, 0, []), (240, 37, 16, 0, 11, [239, 5133]), (243, 1, 1, 0, 0, []), (244, 56, 1, 0, 11, []), (247, 1, 1, 0, 0, []), (248, 57, 0, 0, 12, [])]
def bX11_apply_11 : List In := [(251, 1, 0, 0, 0, []), (252, 58, 0, 0, 12, [])]
def bX11_apply_12 : List In := [(252, 51, 0, 0, 0, []), (253, 1, 0, 0, 0, []), (254, 60, 0, 0, 0, [])]
def bX11_apply_13 : List In := [(255, 6, 0, 1, 0, []), (256, 39, 27, 0, 11, [1375863265, 84, 5144]), (259, 4, 0, 1, 2, []), (260, 6, 0, 1, 0, []), (261, 39, 4, 0, 11, [1040318945, 22, 5121]), (264, 4, 0, 1, 1, []), (265, 45, 0, 0, 0, []), (266, 50, 0, 0, 0, []), (267, 1, 0, 0, 0, []), (268, 60, 0, 0, 0, [])]
def bX11_apply_14 : List In := [(269, 6, 0, 1, 0, []), (270, 39, 28, 0, 11, [1392640481, 87, 5145]), (273, 4, 0, 1, 2, []), (274, 6, 0, 1, 0, []), (275, 39, 4, 0, 11, [1040318945, 22, 5121]), (278, 4, 0, 1, 1, []), (279, 45, 0, 0, 0, []), (280, 50, 0, 0, 0, []), (281, 1, 0, 0, 0, []), (282, 60, 0, 0, 0, [])]
def bX11_apply_15 : List In := [(283, 6, 0, 1, 0, []), (284, 39, 19, 0, 11, [1241645538, 60, 5136]), (287, 4, 0, 1, 2, []), (288, 1, 0, 0, 0, []), (289, 51, 0, 0, 0, []), (290, 1, 0, 0, 0, []), (291, 60, 0, 0, 0, [])]
def BX11_apply : List (List In) := [bX11_apply_0, bX11_apply_1, bX11_apply_2, bX11_apply_3, bX11_apply_4, bX11_apply_5, bX11_apply_6, bX11_apply_7, bX11_apply_8, bX11_apply_9, bX11_apply_10, bX11_apply_11, bX11_apply_12, bX11_apply_13, bX11_apply_14, bX11_apply_15]
set_option maxRecDepth 100000 in
theorem mkX11_apply : MkB 138 BX11_apply := MkB_of (by decide +kernel)
theorem lX11_apply : (sgD 138).2.2.1 = 3 := rfl
theorem eX11_apply_0 : BX11_apply.getD 0 [] = bX11_apply_0 := rfl
theorem eX11_apply_1 : BX11_apply.getD 1 [] = bX11_apply_1 := rfl
theorem eX11_apply_2 : BX11_apply.getD 2 [] = bX11_apply_2 := rfl
theorem eX11_apply_3 : BX11_apply.getD 3 [] = bX11_apply_3 := rfl
theorem eX11_apply_4 : BX11_apply.getD 4 [] = bX11_apply_4 := rfl
theorem eX11_apply_5 : BX11_apply.getD 5 [] = bX11_apply_5 := rfl
theorem eX11_apply_6 : BX11_apply.getD 6 [] = bX11_apply_6 := rfl
theorem eX11_apply_7 : BX11_apply.getD 7 [] = bX11_apply_7 := rfl
theorem eX11_apply_8 : BX11_apply.getD 8 [] = bX11_apply_8 := rfl
theorem eX11_apply_9 : BX11_apply.getD 9 [] = bX11_apply_9 := rfl
theorem eX11_apply_10 : BX11_apply.getD 10 [] = bX11_apply_10 := rfl
theorem eX11_apply_11 : BX11_apply.getD 11 [] = bX11_apply_11 := rfl
theorem eX11_apply_12 : BX11_apply.getD 12 [] = bX11_apply_12 := rfl
theorem eX11_apply_13 : BX11_apply.getD 13 [] = bX11_apply_13 := rfl
theorem eX11_apply_14 : BX11_apply.getD 14 [] = bX11_apply_14 := rfl
theorem eX11_apply_15 : BX11_apply.getD 15 [] = bX11_apply_15 := rfl
def bX11_breakLines_0 : List In := [(0, 1, 60, 1, 0, []), (2, 4, 0, 1, 1, []), (3, 13, 0, 0, 0, []), (4, 4, 0, 1, 2, []), (5, 11, 0, 0, 0, []), (6, 7, 0, 0, 4, []), (8, 6, 0, 1, 0, []), (9, 39, 79, 0, 11, [1996619865, 195, 5196]), (12, 6, 0, 1, 0, []), (13, 37, 78, 0, 11, [404, 5195]), (16, 1, 0, 0, 0, []), (17, 50, 0, 0, 0, []), (18, 6, 0, 1, 0, []), (19, 37, 78, 0, 11, [404, 5195]), (22, 1, 1, 0, 0, []), (23, 12, 0, 0, 0, []), (24, 7, 0, 0, 5, []), (26, 58, 0, 0, 1001, [])]
def bX11_breakLines_1 : List In := [(26, 4, 0, 0, 5, []), (28, 55, 2, 0, 7, []), (31, 6, 0, 1, 0, []), (32, 39, 79, 0, 11, [1996619865, 195, 5196]), (35, 4, 0, 0, 5, []), (37, 1, -1, 0, 0, []), (38, 50, 0, 0, 0, []), (39, 1, 1, 0, 0, []), (40, 7, 0, 0, 6, []), (42, 58, 0, 0, 1002, [])]
def bX11_breakLines_2 : List In := [(42, 4, 0, 0, 5, []), (44, 4, 0, 0, 6, []), (46, 11, 0, 0, 0, []), (47, 6, 0, 1, 0, []), (48, 37, 78, 0, 11, [404, 5195]), (51, 56, 4, 0, 6, []), (54, 6, 0, 1, 0, []), (55, 4, 0, 0, 5, []), (57, 4, 0, 0, 6, []), (59, 75, 7235, 416, 3, [47, 11]), (62, 4, 0, 1, 3, []), (63, 56, 4, 0, 6, []), (66, 6, 0, 1, 0, []), (67, 4, 0, 0, 5, []), (69, 4, 0, 0, 6, []), (71, 4, 0, 1, 3, []), (72, 75, 7239, 419, 4, [101, 11]), (75, 6, 0, 1, 0, []), (76, 39, 79, 0, 11, [1996619865, 195, 5196]), (79, 4, 0, 0, 5, []), (81, 4, 0, 0, 6, []), (83, 11, 0, 0, 0, []), (84, 45, 0, 0, 0, []), (85, 11, 0, 0, 0, []), (86, 7, 0, 0, 7, []), (88, 6, 0, 1, 0, []), (89, 39, 79, 0, 11, [1996619865, 195, 5196]), (92, 4, 0, 0, 5, []), (94, 6, 0, 1, 0, []), (95, 39, 79, 0, 11, [1996619865, 195, 5196]), (98, 4, 0, 0, 5, []), (100, 45, 0, 0, 0, []), (101, 55, 2, 0, 3, []), (104, 4, 0, 0, 7, []), (106, 6, 0, 1, 0, []), (107, 39, 79, 0, 11, [1996619865, 195, 5196]), (110, 4, 0, 0, 5, []), (112, 45, 0, 0, 0, []), (113, 56, 3, 0, 4, []), (116, 58, 0, 0, 3, [])]
def bX11_breakLines_3 : List In := [(116, 4, 0, 0, 7, []), (118, 57, 0, 0, 5, [])]
def bX11_breakLines_4 : List In := [(121, 6, 0, 1, 0, []), (122, 39, 79, 0, 11, [1996619865, 195, 5196]), (125, 4, 0, 0, 5, []), (127, 45, 0, 0, 0, []), (128, 58, 0, 0, 5, [])]
def bX11_breakLines_5 : List In := [(128, 50, 0, 0, 0, []), (129, 10, 1, 0, 6, []), (132, 57, 0, 0, 1002, [])]
def bX11_breakLines_6 : List In := [(135, 10, -1, 0, 5, []), (138, 57, 0, 0, 1001, [])]
def bX11_breakLines_7 : List In := [(141, 6, 0, 1, 0, []), (142, 39, 66, 0, 11, [1895957441, 177, 5183]), (145, 4, 0, 0, 4, []), (147, 1, 0, 0, 0, []), (148, 50, 0, 0, 0, []), (149, 1, 0, 0, 0, []), (150, 7, 0, 0, 5, []), (152, 58, 0, 0, 1008, [])]
def bX11_breakLines_8 : List In := [(152, 4, 0, 0, 5, []), (154, 6, 0, 1, 0, []), (155, 37, 78, 0, 11, [404, 5195]), (158, 56, 3, 0, 13, []), (161, 1, 1, 0, 0, []), (162, 7, 0, 0, 6, []), (164, 1, 1, 0, 0, []), (165, 7, 0, 0, 7, []), (167, 58, 0, 0, 1009, [])]
def bX11_breakLines_9 : List In := [(167, 4, 0, 0, 5, []), (169, 4, 0, 0, 7, []), (171, 11, 0, 0, 0, []), (172, 6, 0, 1, 0, []), (173, 37, 78, 0, 11, [404, 5195]), (176, 56, 4, 0, 12, []), (179, 6, 0, 1, 0, []), (180, 4, 0, 0, 5, []), (182, 4, 0, 0, 7, []), (184, 75, 7235, 416, 3, [47, 11]), (187, 4, 0, 1, 3, []), (188, 56, 4, 0, 12, []), (191, 6, 0, 1, 0, []), (192, 4, 0, 0, 5, []), (194, 4, 0, 0, 7, []), (196, 4, 0, 1, 3, []), (197, 75, 7239, 419, 4, [101, 11]), (200, 6, 0, 1, 0, []), (201, 39, 79, 0, 11, [1996619865, 195, 5196]), (204, 4, 0, 0, 5, []), (206, 4, 0, 0, 7, []), (208, 11, 0, 0, 0, []), (209, 45, 0, 0, 0, []), (210, 11, 0, 0, 0, []), (211, 6, 0, 1, 0, []), (212, 39, 79, 0, 11, [1996619865, 195, 5196]), (215, 4, 0, 0, 5, []), (217, 45, 0, 0, 0, []), (218, 56, 1, 0, 10, []), (221, 4, 0, 0, 7, []), (223, 57, 0, 0, 11, [])]
def bX11_breakLines_10 : List In := [(226, 4, 0, 0, 6, []), (228, 58, 0, 0, 11, [])]
def bX11_breakLines_11 : List In := [(228, 7, 0, 0, 6, []), (230, 10, 1, 0, 7, []), (233, 57, 0, 0, 1009, [])]
def bX11_breakLines_12 : List In := [(236, 6, 0, 1, 0, []), (237, 39, 67, 0, 11, [1912743297, 180, 5184]), (240, 1, 10, 1, 0, []), (242, 4, 0, 0, 4, []), (244, 13, 0, 0, 0, []), (245, 6, 0, 1, 0, []), (246, 39, 66, 0, 11, [1895957441, 177, 5183]), (249, 4, 0, 0, 4, []), (251, 45, 0, 0, 0, []), (252, 11, 0, 0, 0, []), (253, 4, 0, 0, 6, []), (255, 50, 0, 0, 0, []), (256, 6, 0, 1, 0, []), (257, 39, 66, 0, 11, [1895957441, 177, 5183]), (260, 4, 0, 0, 4, []), (262, 36, 0, 0, 0, []), (263, 45, 0, 0, 0, []), (264, 1, 1, 0, 0, []), (265, 11, 0, 0, 0, []), (266, 50, 0, 0, 0, []), (267, 4, 0, 0, 5, []), (269, 4, 0, 0, 6, []), (271, 11, 0, 0, 0, []), (272, 7, 0, 0, 5, []), (274, 57, 0, 0, 1008, [])]
def bX11_breakLines_13 : List In := [(277, 6, 0, 1, 0, []), (278, 35, 0, 0, 0, []), (279, 37, 74, 0, 11, [422, 5191]), (282, 6, 0, 1, 0, []), (283, 37, 78, 0, 11, [404, 5195]), (286, 55, 5, 0, 14, []), (289, 6, 0, 1, 0, []), (290, 39, 79, 0, 11, [1996619865, 195, 5196]), (293, 1, 0, 0, 0, []), (294, 45, 0, 0, 0, []), (295, 57, 0, 0, 15, [])]
def bX11_breakLines_14 : List In := [(298, 1, 0, 0, 0, []), (299, 58, 0, 0, 15, [])]
def bX11_breakLines_15 : List In := [(299, 11, 0, 0, 0, []), (300, 42, 74, 0, 11, [422, 5191]), (303, 6, 0, 1, 0, []), (304, 35, 0, 0, 0, []), (305, 37, 75, 0, 11, [425, 5192]), (308, 6, 0, 1, 0, []), (309, 39, 66, 0, 11, [1895957441, 177, 5183]), (312, 4, 0, 0, 4, []), (314, 45, 0, 0, 0, []), (315, 11, 0, 0, 0, []), (316, 42, 75, 0, 11, [425, 5192]), (319, 64, 0, 0, 0, [])]
def BX11_breakLines : List (List In) := [bX11_breakLines_0, bX11_breakLines_1, bX11_breakLines_2, bX11_breakLines_3, bX11_breakLines_4, bX11_breakLines_5, bX11_breakLines_6, bX11_breakLines_7, bX11_breakLines_8, bX11_breakLines_9, bX11_breakLines_10, bX11_breakLines_11, bX11_breakLines_12, bX11_breakLines_13, bX11_breakLines_14, bX11_breakLines_15]
set_option maxRecDepth 100000 in
theorem mkX11_breakLines : MkB 139 BX11_breakLines := MkB_of (by decide +kernel)
theorem lX11_breakLines : (sgD 139).2.2.1 = 8 := rfl
theorem eX11_breakLines_0 : BX11_breakLines.getD 0 [] = bX11_breakLines_0 := rfl
theorem eX11_breakLines_1 : BX11_breakLines.getD 1 [] = bX11_breakLines_1 := rfl
theorem eX11_breakLines_2 : BX11_breakLines.getD 2 [] = bX11_breakLines_2 := rfl
theorem eX11_breakLines_3 : BX11_breakLines.getD 3 [] = bX11_breakLines_3 := rfl
theorem eX11_breakLines_4 : BX11_breakLines.getD 4 [] = bX11_breakLines_4 := rfl
theorem eX11_breakLines_5 : BX11_breakLines.getD 5 [] = bX11_breakLines_5 := rfl
theorem eX11_breakLines_6 : BX11_breakLines.getD 6 [] = bX11_breakLines_6 := rfl
theorem eX11_breakLines_7 : BX11_breakLines.getD 7 [] = bX11_breakLines_7 := rfl
theorem eX11_breakLines_8 : BX11_breakLines.getD 8 [] = bX11_breakLines_8 := rfl
theorem eX11_breakLines_9 : BX11_breakLines.getD 9 [] = bX11_breakLines_9 := rfl
theorem eX11_breakLines_10 : BX11_breakLines.getD 10 [] = bX11_breakLines_10 := rfl
theorem eX11_breakLines_11 : BX11_breakLines.getD 11 [] = bX11_breakLines_11 := rfl
theorem eX11_breakLines_12 : BX11_breakLines.getD 12 [] = bX11_breakLines_12 := rfl
theorem eX11_breakLines_13 : BX11_breakLines.getD 13 [] = bX11_breakLines_13 := rfl
theorem eX11_breakLines_14 : BX11_breakLines.getD 14 [] = bX11_breakLines_14 := rfl
theorem eX11_breakLines_15 : BX11_breakLines.getD 15 [] = bX11_breakLines_15 := rfl
def bX11_doClash_0 : List In := [(0, 4, 0, 0, 6, []), (2, 1, 4, 0, 0, []), (3, 56, 3, 0, 7, []), (6, 4, 0, 0, 6, []), (8, 55, 1, 0, 1, []), (11, 1, 2, 0, 0, []), (12, 57, 0, 0, 4, [])]
def bX11_doClash_1 : List In := [(15, 4, 0, 0, 6, []), (17, 1, 1, 0, 0, []), (18, 56, 1, 0, 2, []), (21, 1, 3, 0, 0, []), (22, 57, 0, 0, 4, [])]
def bX11_doClash_2 : List In := [(25, 4, 0, 0, 6, []), (27, 1, 2, 0, 0, []), (28, 56, 1, 0, 3, []), (31, 1, 4, 0, 0, []), (32, 57, 0, 0, 4, [])]
def bX11_doClash_3 : List In := [(35, 1, 5, 0, 0, []), (36, 58, 0, 0, 4, [])]
def bX11_doClash_4 : List In := [(36, 7, 0, 0, 7, []), (38, 6, 0, 1, 0, []), (39, 5, 0, 1, 1, []), (40, 4, 0, 0, 7, []), (42, 4, 0, 0, 5, []), (44, 75, 7100, 337, 4, [94, 11]), (47, 55, 0, 0, 5, []), (50, 6, 0, 1, 0, []), (51, 5, 0, 1, 3, []), (52, 4, 0, 0, 7, []), (54, 4, 0, 0, 5, []), (56, 75, 7100, 337, 4, [94, 11]), (59, 55, 0, 0, 5, []), (62, 1, 1, 0, 0, []), (63, 57, 0, 0, 6, [])]
def bX11_doClash_5 : List In := [(66, 1, 0, 0, 0, []), (67, 58, 0, 0, 6, [])]
def bX11_doClash_6 : List In := [(67, 61, 0, 0, 0, [])]
def bX11_doClash_7 : List In := [(68, 6, 0, 1, 0, []), (69, 5, 0, 1, 1, []), (70, 1, 1, 0, 0, []), (71, 4, 0, 0, 5, []), (73, 75, 7100, 337, 4, [94, 11]), (76, 55, 0, 0, 9, []), (79, 6, 0, 1, 0, []), (80, 5, 0, 1, 3, []), (81, 1, 2, 0, 0, []), (82, 4, 0, 0, 5, []), (84, 75, 7100, 337, 4, [94, 11]), (87, 55, 1, 0, 8, []), (90, 6, 0, 1, 0, []), (91, 5, 0, 1, 3, []), (92, 1, 3, 0, 0, []), (93, 4, 0, 0, 5, []), (95, 75, 7100, 337, 4, [94, 11]), (98, 55, 0, 0, 9, []), (101, 58, 0, 0, 8, [])]
def bX11_doClash_8 : List In := [(101, 1, 1, 0, 0, []), (102, 57, 0, 0, 10, [])]
def bX11_doClash_9 : List In := [(105, 1, 0, 0, 0, []), (106, 58, 0, 0, 10, [])]
def bX11_doClash_10 : List In := [(106, 7, 0, 0, 7, []), (108, 6, 0, 1, 0, []), (109, 5, 0, 1, 3, []), (110, 1, 1, 0, 0, []), (111, 4, 0, 0, 5, []), (113, 75, 7100, 337, 4, [94, 11]), (116, 55, 0, 0, 12, []), (119, 6, 0, 1, 0, []), (120, 5, 0, 1, 1, []), (121, 1, 2, 0, 0, []), (122, 4, 0, 0, 5, []), (124, 75, 7100, 337, 4, [94, 11]), (127, 55, 1, 0, 11, []), (130, 6, 0, 1, 0, []), (131, 5, 0, 1, 1, []), (132, 1, 3, 0, 0, []), (133, 4, 0, 0, 5, []), (135, 75, 7100, 337, 4, [94, 11]), (138, 55, 0, 0, 12, []), (141, 58, 0, 0, 11, [])]
def bX11_doClash_11 : List In := [(141, 1, 1, 0, 0, []), (142, 57, 0, 0, 13, [])]
def bX11_doClash_12 : List In := [(145, 1, 0, 0, 0, []), (146, 58, 0, 0, 13, [])]
def bX11_doClash_13 : List In := [(146, 7, 0, 0, 8, []), (148, 4, 0, 0, 7, []), (150, 55, 1, 0, 14, []), (153, 4, 0, 0, 8, []), (155, 55, 0, 0, 15, []), (158, 58, 0, 0, 14, [])]
def bX11_doClash_14 : List In := [(158, 1, 1, 0, 0, []), (159, 57, 0, 0, 16, [])]
def bX11_doClash_15 : List In := [(162, 1, 0, 0, 0, []), (163, 58, 0, 0, 16, [])]
def bX11_doClash_16 : List In := [(163, 61, 0, 0, 0, [])]
def BX11_doClash : List (List In) := [bX11_doClash_0, bX11_doClash_1, bX11_doClash_2, bX11_doClash_3, bX11_doClash_4, bX11_doClash_5, bX11_doClash_6, bX11_doClash_7, bX11_doClash_8, bX11_doClash_9, bX11_doClash_10, bX11_doClash_11, bX11_doClash_12, bX11_doClash_13, bX11_doClash_14, bX11_doClash_15, bX11_doClash_16]
set_option maxRecDepth 100000 in
theorem mkX11_doClash : MkB 140 BX11_doClash := MkB_of (by decide +kernel)
theorem lX11_doClash : (sgD 140).2.2.1 = 9 := rfl
theorem eX11_doClash_0 : BX11_doClash.getD 0 [] = bX11_doClash_0 := rfl
theorem eX11_doClash_1 : BX11_doClash.getD 1 [] = bX11_doClash_1 := rfl
theorem eX11_doClash_2 : BX11_doClash.getD 2 [] = bX11_doClash_2 := rfl
theorem eX11_doClash_3 : BX11_doClash.getD 3 [] = bX11_doClash_3 := rfl
theorem eX11_doClash_4 : BX11_doClash.getD 4 [] = bX11_doClash_4 := rfl
theorem eX11_doClash_5 : BX11_doClash.getD 5 [] = bX11_doClash_5 := rfl
theorem eX11_doClash_6 : BX11_doClash.getD 6 [] = bX11_doClash_6 := rfl
theorem eX11_doClash_7 : BX11_doClash.getD 7 [] = bX11_doClash_7 := rfl
theorem eX11_doClash_8 : BX11_doClash.getD 8 [] = bX11_doClash_8 := rfl
theorem eX11_doClash_9 : BX11_doClash.getD 9 [] = bX11_doClash_9 := rfl
theorem eX11_doClash_10 : BX11_doClash.getD 10 [] = bX11_doClash_10 := rfl
theorem eX11_doClash_11 : BX11_doClash.getD 11 [] = bX11_doClash_11 := rfl
theorem eX11_doClash_12 : BX11_doClash.getD 12 [] = bX11_doClash_12 := rfl
theorem eX11_doClash_13 : BX11_doClash.getD 13 [] = bX11_doClash_13 := rfl
theorem eX11_doClash_14 : BX11_doClash.getD 14 [] = bX11_doClash_14 := rfl
theorem eX11_doClash_15 : BX11_doClash.getD 15 [] = bX11_doClash_15 := rfl
theorem eX11_doClash_16 : BX11_doClash.getD 16 [] = bX11_doClash_16 := rfl
def bX11_give_0 : List In := [(0, 4, 0, 1, 1, []), (1, 65, 6129, 204, 1, [98, 0]), (4, 55, 0, 0, 1, []), (7, 4, 0, 1, 2, []), (8, 65, 6129, 204, 1, [98, 0]), (11, 55, 1, 0, 2, []), (14, 58, 0, 0, 1, [])]
def bX11_give_1 : List In := [(14, 1, -1, 0, 0, []), (15, 60, 0, 0, 0, [])]
def bX11_give_2 : List In := [(16, 4, 0, 1, 3, []), (17, 32, 0, 0, 0, []), (18, 2, 1, 0, 1, []), (19, 2, 60, 1, 0, [304, 7010]), (22, 65, 6133, 200, 3, [31, 0]), (25, 55, 1, 0, 3, []), (28, 1, -2, 1, 0, []), (30, 60, 0, 0, 0, [])]
def bX11_give_3 : List In := [(31, 6, 0, 1, 0, []), (32, 79, 6147, 246, 1, [107, 11]), (35, 1, 0, 0, 0, []), (36, 7, 0, 0, 4, []), (38, 1, 0, 0, 0, []), (39, 7, 0, 0, 5, []), (41, 58, 0, 0, 1004, [])]
def bX11_give_4 : List In := [(41, 4, 0, 0, 5, []), (43, 6, 0, 1, 0, []), (44, 37, 10, 0, 11, [214, 5127]), (47, 56, 3, 0, 6, []), (50, 4, 0, 0, 4, []), (52, 4, 0, 1, 3, []), (53, 56, 3, 0, 6, []), (56, 6, 0, 1, 0, []), (57, 39, 11, 0, 11, [1140981811, 40, 5128]), (60, 4, 0, 1, 1, []), (61, 47, 0, 0, 0, []), (62, 6, 0, 1, 0, []), (63, 39, 17, 0, 11, [1208091105, 53, 5134]), (66, 4, 0, 0, 5, []), (68, 45, 0, 0, 0, []), (69, 65, 6159, 252, 2, [35, 0]), (72, 55, 0, 0, 5, []), (75, 6, 0, 1, 0, []), (76, 39, 11, 0, 11, [1140981811, 40, 5128]), (79, 4, 0, 1, 2, []), (80, 47, 0, 0, 0, []), (81, 6, 0, 1, 0, []), (82, 39, 17, 0, 11, [1208091105, 53, 5134]), (85, 4, 0, 0, 5, []), (87, 45, 0, 0, 0, []), (88, 65, 6159, 252, 2, [35, 0]), (91, 55, 1, 0, 5, []), (94, 6, 0, 1, 0, []), (95, 39, 11, 0, 11, [1140981811, 40, 5128]), (98, 4, 0, 1, 2, []), (99, 36, 0, 0, 0, []), (100, 47, 0, 0, 0, []), (101, 2, 1, 0, 1, []), (102, 6, 0, 1, 0, []), (103, 39, 17, 0, 11, [1208091105, 53, 5134]), (106, 4, 0, 0, 5, []), (108, 45, 0, 0, 0, []), (109, 29, 0, 0, 0, []), (110, 27, 0, 0, 0, []), (111, 52, 0, 0, 0, []), (112, 10, 1, 0, 4, []), (115, 58, 0, 0, 5, [])]
def bX11_give_5 : List In := [(115, 10, 1, 0, 5, []), (118, 57, 0, 0, 1004, [])]
def bX11_give_6 : List In := [(121, 4, 0, 0, 4, []), (123, 60, 0, 0, 0, [])]
def BX11_give : List (List In) := [bX11_give_0, bX11_give_1, bX11_give_2, bX11_give_3, bX11_give_4, bX11_give_5, bX11_give_6]
set_option maxRecDepth 100000 in
theorem mkX11_give : MkB 141 BX11_give := MkB_of (by decide +kernel)
theorem lX11_give : (sgD 141).2.2.1 = 6 := rfl
theorem eX11_give_0 : BX11_give.getD 0 [] = bX11_give_0 := rfl
theorem eX11_give_1 : BX11_give.getD 1 [] = bX11_give_1 := rfl
theorem eX11_give_2 : BX11_give.getD 2 [] = bX11_give_2 := rfl
theorem eX11_give_3 : BX11_give.getD 3 [] = bX11_give_3 := rfl
theorem eX11_give_4 : BX11_give.getD 4 [] = bX11_give_4 := rfl
theorem eX11_give_5 : BX11_give.getD 5 [] = bX11_give_5 := rfl
theorem eX11_give_6 : BX11_give.getD 6 [] = bX11_give_6 := rfl
def bX11_isMet_0 : List In := [(0, 6, 0, 1, 0, []), (1, 39, 37, 0, 11, [1510080561, 108, 5154]), (4, 4, 0, 1, 1, []), (5, 45, 0, 0, 0, []), (6, 7, 0, 1, 2, []), (7, 4, 0, 1, 2, []), (8, 1, -1, 0, 0, []), (9, 56, 0, 0, 1, []), (12, 6, 0, 1, 0, []), (13, 4, 0, 1, 2, []), (14, 75, 7052, 262, 2, [38, 11]), (17, 55, 1, 0, 1, []), (20, 1, 1, 0, 0, []), (21, 61, 0, 0, 0, [])]
def bX11_isMet_1 : List In := [(22, 1, -1, 0, 0, []), (23, 7, 0, 1, 3, []), (24, 1, 0, 0, 0, []), (25, 7, 0, 0, 4, []), (27, 58, 0, 0, 1002, [])]
def bX11_isMet_2 : List In := [(27, 4, 0, 0, 4, []), (29, 6, 0, 1, 0, []), (30, 37, 43, 0, 11, [355, 5160]), (33, 56, 3, 0, 8, []), (36, 6, 0, 1, 0, []), (37, 39, 40, 0, 11, [1543635105, 114, 5157]), (40, 4, 0, 0, 4, []), (42, 45, 0, 0, 0, []), (43, 1, -1, 0, 0, []), (44, 56, 0, 0, 3, []), (47, 4, 0, 1, 2, []), (48, 1, -1, 0, 0, []), (49, 56, 0, 0, 4, []), (52, 6, 0, 1, 0, []), (53, 4, 0, 1, 2, []), (54, 6, 0, 1, 0, []), (55, 39, 40, 0, 11, [1543635105, 114, 5157]), (58, 4, 0, 0, 4, []), (60, 45, 0, 0, 0, []), (61, 75, 6177, 232, 3, [39, 11]), (64, 55, 0, 0, 4, []), (67, 58, 0, 0, 3, [])]
def bX11_isMet_3 : List In := [(67, 1, 1, 0, 0, []), (68, 57, 0, 0, 5, [])]
def bX11_isMet_4 : List In := [(71, 1, 0, 0, 0, []), (72, 58, 0, 0, 5, [])]
def bX11_isMet_5 : List In := [(72, 7, 0, 0, 5, []), (74, 6, 0, 1, 0, []), (75, 39, 39, 0, 11, [1526857889, 111, 5156]), (78, 4, 0, 0, 4, []), (80, 45, 0, 0, 0, []), (81, 6, 0, 1, 0, []), (82, 39, 36, 0, 11, [1493303345, 105, 5153]), (85, 4, 0, 1, 1, []), (86, 45, 0, 0, 0, []), (87, 56, 1, 0, 6, []), (90, 4, 0, 0, 5, []), (92, 55, 0, 0, 6, []), (95, 4, 0, 0, 4, []), (97, 57, 0, 0, 7, [])]
def bX11_isMet_6 : List In := [(100, 4, 0, 1, 3, []), (101, 58, 0, 0, 7, [])]
def bX11_isMet_7 : List In := [(101, 7, 0, 1, 3, []), (102, 10, 1, 0, 4, []), (105, 57, 0, 0, 1002, [])]
def bX11_isMet_8 : List In := [(108, 4, 0, 1, 3, []), (109, 55, 3, 0, 9, []), (112, 1, 0, 0, 0, []), (113, 61, 0, 0, 0, [])]
def bX11_isMet_9 : List In := [(114, 6, 0, 1, 0, []), (115, 6, 0, 1, 0, []), (116, 39, 40, 0, 11, [1543635105, 114, 5157]), (119, 4, 0, 1, 3, []), (120, 45, 0, 0, 0, []), (121, 79, 7117, 358, 2, [93, 11]), (124, 6, 0, 1, 0, []), (125, 37, 45, 0, 11, [352, 5162]), (128, 6, 0, 1, 0, []), (129, 39, 41, 0, 11, [1560412321, 117, 5158]), (132, 4, 0, 1, 3, []), (133, 45, 0, 0, 0, []), (134, 56, 1, 0, 10, []), (137, 1, 1, 0, 0, []), (138, 57, 0, 0, 11, [])]
def bX11_isMet_10 : List In := [(141, 1, 0, 0, 0, []), (142, 58, 0, 0, 11, [])]
def bX11_isMet_11 : List In := [(142, 7, 0, 0, 4, []), (144, 1, 0, 0, 0, []), (145, 7, 0, 0, 5, []), (147, 58, 0, 0, 1012, [])]
def bX11_isMet_12 : List In := [(147, 4, 0, 0, 5, []), (149, 6, 0, 1, 0, []), (150, 37, 45, 0, 11, [352, 5162]), (153, 56, 3, 0, 13, []), (156, 4, 0, 0, 4, []), (158, 55, 0, 0, 13, []), (161, 6, 0, 1, 0, []), (162, 6, 0, 1, 0, []), (163, 39, 44, 0, 11, [1593970433, 123, 5161]), (166, 4, 0, 0, 5, []), (168, 45, 0, 0, 0, []), (169, 6, 0, 1, 0, []), (170, 39, 42, 0, 11, [1577266177, 120, 5159]), (173, 1, 480, 2, 0, []), (176, 4, 0, 1, 3, []), (177, 13, 0, 0, 0, []), (178, 4, 0, 0, 5, []), (180, 11, 0, 0, 0, []), (181, 45, 0, 0, 0, []), (182, 75, 7080, 328, 3, [24, 11]), (185, 7, 0, 0, 4, []), (187, 10, 1, 0, 5, []), (190, 57, 0, 0, 1012, [])]
def bX11_isMet_13 : List In := [(193, 4, 0, 0, 4, []), (195, 61, 0, 0, 0, [])]
def BX11_isMet : List (List In) := [bX11_isMet_0, bX11_isMet_1, bX11_isMet_2, bX11_isMet_3, bX11_isMet_4, bX11_isMet_5, bX11_isMet_6, bX11_isMet_7, bX11_isMet_8, bX11_isMet_9, bX11_isMet_10, bX11_isMet_11, bX11_isMet_12, bX11_isMet_13]
set_option maxRecDepth 100000 in
theorem mkX11_isMet : MkB 142 BX11_isMet := MkB_of (by decide +kernel)
theorem lX11_isMet : (sgD 142).2.2.1 = 6 := rfl
theorem eX11_isMet_0 : BX11_isMet.getD 0 [] = bX11_isMet_0 := rfl
theorem eX11_isMet_1 : BX11_isMet.getD 1 [] = bX11_isMet_1 := rfl
theorem eX11_isMet_2 : BX11_isMet.getD 2 [] = bX11_isMet_2 := rfl
theorem eX11_isMet_3 : BX11_isMet.getD 3 [] = bX11_isMet_3 := rfl
theorem eX11_isMet_4 : BX11_isMet.getD 4 [] = bX11_isMet_4 := rfl
theorem eX11_isMet_5 : BX11_isMet.getD 5 [] = bX11_isMet_5 := rfl
theorem eX11_isMet_6 : BX11_isMet.getD 6 [] = bX11_isMet_6 := rfl
theorem eX11_isMet_7 : BX11_isMet.getD 7 [] = bX11_isMet_7 := rfl
theorem eX11_isMet_8 : BX11_isMet.getD 8 [] = bX11_isMet_8 := rfl
theorem eX11_isMet_9 : BX11_isMet.getD 9 [] = bX11_isMet_9 := rfl
theorem eX11_isMet_10 : BX11_isMet.getD 10 [] = bX11_isMet_10 := rfl
theorem eX11_isMet_11 : BX11_isMet.getD 11 [] = bX11_isMet_11 := rfl
theorem eX11_isMet_12 : BX11_isMet.getD 12 [] = bX11_isMet_12 := rfl
theorem eX11_isMet_13 : BX11_isMet.getD 13 [] = bX11_isMet_13 := rfl
def bX11_isSource_0 : List In := [(0, 4, 0, 1, 1, []), (1, 65, 6129, 204, 1, [98, 0]), (4, 55, 1, 0, 1, []), (7, 4, 0, 1, 1, []), (8, 32, 0, 0, 0, []), (9, 2, 10, 1, 0, [208, 7031]), (12, 1, 9, 1, 0, []), (14, 6, 0, 1, 0, []), (15, 37, 13, 0, 11, [210, 5130]), (18, 11, 0, 0, 0, []), (19, 32, 0, 0, 0, []), (20, 65, 6133, 200, 3, [31, 0]), (23, 55, 0, 0, 2, []), (26, 58, 0, 0, 1, [])]
def bX11_isSource_1 : List In := [(26, 1, 1, 0, 0, []), (27, 57, 0, 0, 3, [])]
def bX11_isSource_2 : List In := [(30, 1, 0, 0, 0, []), (31, 58, 0, 0, 3, [])]
def bX11_isSource_3 : List In := [(31, 61, 0, 0, 0, [])]
def BX11_isSource : List (List In) := [bX11_isSource_0, bX11_isSource_1, bX11_isSource_2, bX11_isSource_3]
set_option maxRecDepth 100000 in
theorem mkX11_isSource : MkB 143 BX11_isSource := MkB_of (by decide +kernel)
theorem lX11_isSource : (sgD 143).2.2.1 = 2 := rfl
theorem eX11_isSource_0 : BX11_isSource.getD 0 [] = bX11_isSource_0 := rfl
theorem eX11_isSource_1 : BX11_isSource.getD 1 [] = bX11_isSource_1 := rfl
theorem eX11_isSource_2 : BX11_isSource.getD 2 [] = bX11_isSource_2 := rfl
theorem eX11_isSource_3 : BX11_isSource.getD 3 [] = bX11_isSource_3 := rfl
def bX11_isStale_0 : List In := [(0, 6, 0, 1, 0, []), (1, 4, 0, 1, 1, []), (2, 4, 0, 1, 2, []), (3, 75, 7148, 374, 3, [43, 11]), (6, 7, 0, 1, 3, []), (7, 6, 0, 1, 0, []), (8, 39, 24, 0, 11, [1325531617, 75, 5141]), (11, 4, 0, 1, 2, []), (12, 45, 0, 0, 0, []), (13, 55, 5, 0, 2, []), (16, 4, 0, 1, 3, []), (17, 55, 2, 0, 1, []), (20, 6, 0, 1, 0, []), (21, 4, 0, 1, 3, []), (22, 4, 0, 1, 2, []), (23, 75, 7152, 377, 3, [88, 11]), (26, 55, 1, 0, 2, []), (29, 58, 0, 0, 1, [])]
def bX11_isStale_1 : List In := [(29, 1, 1, 0, 0, []), (30, 57, 0, 0, 3, [])]
def bX11_isStale_2 : List In := [(33, 1, 0, 0, 0, []), (34, 58, 0, 0, 3, [])]
def bX11_isStale_3 : List In := [(34, 61, 0, 0, 0, [])]
def BX11_isStale : List (List In) := [bX11_isStale_0, bX11_isStale_1, bX11_isStale_2, bX11_isStale_3]
set_option maxRecDepth 100000 in
theorem mkX11_isStale : MkB 144 BX11_isStale := MkB_of (by decide +kernel)
theorem lX11_isStale : (sgD 144).2.2.1 = 4 := rfl
theorem eX11_isStale_0 : BX11_isStale.getD 0 [] = bX11_isStale_0 := rfl
theorem eX11_isStale_1 : BX11_isStale.getD 1 [] = bX11_isStale_1 := rfl
theorem eX11_isStale_2 : BX11_isStale.getD 2 [] = bX11_isStale_2 := rfl
theorem eX11_isStale_3 : BX11_isStale.getD 3 [] = bX11_isStale_3 := rfl
def bX11_isThereNow_0 : List In := [(0, 6, 0, 1, 0, []), (1, 4, 0, 1, 1, []), (2, 75, 6197, 267, 2, [99, 11]), (5, 55, 0, 0, 1, []), (8, 6, 0, 1, 0, []), (9, 39, 18, 0, 11, [1224868322, 56, 5135]), (12, 4, 0, 1, 1, []), (13, 46, 0, 0, 0, []), (14, 55, 0, 0, 1, []), (17, 1, 1, 0, 0, []), (18, 57, 0, 0, 2, [])]
def bX11_isThereNow_1 : List In := [(21, 1, 0, 0, 0, []), (22, 58, 0, 0, 2, [])]
def bX11_isThereNow_2 : List In := [(22, 61, 0, 0, 0, [])]
def BX11_isThereNow : List (List In) := [bX11_isThereNow_0, bX11_isThereNow_1, bX11_isThereNow_2]
set_option maxRecDepth 100000 in
theorem mkX11_isThereNow : MkB 145 BX11_isThereNow := MkB_of (by decide +kernel)
theorem lX11_isThereNow : (sgD 145).2.2.1 = 2 := rfl
theorem eX11_isThereNow_0 : BX11_isThereNow.getD 0 [] = bX11_isThereNow_0 := rfl
theorem eX11_isThereNow_1 : BX11_isThereNow.getD 1 [] = bX11_isThereNow_1 := rfl
theorem eX11_isThereNow_2 : BX11_isThereNow.getD 2 [] = bX11_isThereNow_2 := rfl
def bX11_keep_0 : List In := [(0, 4, 0, 1, 1, []), (1, 65, 6129, 204, 1, [98, 0]), (4, 55, 1, 0, 1, []), (7, 1, -1, 0, 0, []), (8, 60, 0, 0, 0, [])]
def bX11_keep_1 : List In := [(9, 6, 0, 1, 0, []), (10, 37, 13, 0, 11, [210, 5130]), (13, 1, 8, 1, 0, []), (15, 56, 1, 0, 2, []), (18, 1, -4, 1, 0, []), (20, 60, 0, 0, 0, [])]
def bX11_keep_2 : List In := [(21, 6, 0, 1, 0, []), (22, 39, 12, 0, 11, [1157759043, 44, 5129]), (25, 6, 0, 1, 0, []), (26, 37, 13, 0, 11, [210, 5130]), (29, 6, 0, 1, 0, []), (30, 39, 11, 0, 11, [1140981811, 40, 5128]), (33, 4, 0, 1, 1, []), (34, 47, 0, 0, 0, []), (35, 52, 0, 0, 0, []), (36, 6, 0, 1, 0, []), (37, 35, 0, 0, 0, []), (38, 37, 13, 0, 11, [210, 5130]), (41, 1, 1, 0, 0, []), (42, 11, 0, 0, 0, []), (43, 42, 13, 0, 11, [210, 5130]), (46, 1, 9, 1, 0, []), (48, 6, 0, 1, 0, []), (49, 37, 13, 0, 11, [210, 5130]), (52, 11, 0, 0, 0, []), (53, 60, 0, 0, 0, [])]
def BX11_keep : List (List In) := [bX11_keep_0, bX11_keep_1, bX11_keep_2]
set_option maxRecDepth 100000 in
theorem mkX11_keep : MkB 146 BX11_keep := MkB_of (by decide +kernel)
theorem lX11_keep : (sgD 146).2.2.1 = 2 := rfl
theorem eX11_keep_0 : BX11_keep.getD 0 [] = bX11_keep_0 := rfl
theorem eX11_keep_1 : BX11_keep.getD 1 [] = bX11_keep_1 := rfl
theorem eX11_keep_2 : BX11_keep.getD 2 [] = bX11_keep_2 := rfl
def bX11_layWide_0 : List In := [(0, 1, 60, 1, 0, []), (2, 4, 0, 1, 1, []), (3, 13, 0, 0, 0, []), (4, 4, 0, 1, 2, []), (5, 11, 0, 0, 0, []), (6, 7, 0, 1, 3, []), (7, 6, 0, 1, 0, []), (8, 6, 0, 1, 0, []), (9, 39, 62, 0, 11, [1828848577, 165, 5179]), (12, 4, 0, 1, 3, []), (13, 45, 0, 0, 0, []), (14, 42, 78, 0, 11, [404, 5195]), (17, 1, 0, 0, 0, []), (18, 7, 0, 0, 4, []), (20, 58, 0, 0, 1001, [])]
def bX11_layWide_1 : List In := [(20, 4, 0, 0, 4, []), (22, 6, 0, 1, 0, []), (23, 37, 78, 0, 11, [404, 5195]), (26, 56, 3, 0, 2, []), (29, 6, 0, 1, 0, []), (30, 39, 77, 0, 11, [1979842641, 192, 5194]), (33, 4, 0, 0, 4, []), (35, 1, 1, 0, 0, []), (36, 6, 0, 1, 0, []), (37, 39, 63, 0, 11, [1845632513, 168, 5180]), (40, 1, 8, 1, 0, []), (42, 4, 0, 1, 3, []), (43, 13, 0, 0, 0, []), (44, 4, 0, 0, 4, []), (46, 11, 0, 0, 0, []), (47, 45, 0, 0, 0, []), (48, 1, 7, 1, 0, []), (50, 15, 0, 0, 0, []), (51, 11, 0, 0, 0, []), (52, 50, 0, 0, 0, []), (53, 10, 1, 0, 4, []), (56, 57, 0, 0, 1001, [])]
def bX11_layWide_2 : List In := [(59, 6, 0, 1, 0, []), (60, 4, 0, 1, 2, []), (61, 75, 7224, 407, 2, [109, 11]), (64, 55, 0, 0, 5, []), (67, 6, 0, 1, 0, []), (68, 39, 77, 0, 11, [1979842641, 192, 5194]), (71, 6, 0, 1, 0, []), (72, 37, 78, 0, 11, [404, 5195]), (75, 6, 0, 1, 0, []), (76, 37, 71, 0, 11, [410, 5188]), (79, 1, 1, 0, 0, []), (80, 56, 1, 0, 3, []), (83, 1, 1, 0, 0, []), (84, 57, 0, 0, 4, [])]
def bX11_layWide_3 : List In := [(87, 6, 0, 1, 0, []), (88, 39, 70, 0, 11, [1963065825, 189, 5187]), (91, 6, 0, 1, 0, []), (92, 39, 28, 0, 11, [1392640481, 87, 5145]), (95, 4, 0, 1, 2, []), (96, 45, 0, 0, 0, []), (97, 45, 0, 0, 0, []), (98, 65, 7228, 413, 1, [29, 0]), (101, 58, 0, 0, 4, [])]
def bX11_layWide_4 : List In := [(101, 50, 0, 0, 0, []), (102, 6, 0, 1, 0, []), (103, 35, 0, 0, 0, []), (104, 37, 78, 0, 11, [404, 5195]), (107, 1, 1, 0, 0, []), (108, 11, 0, 0, 0, []), (109, 42, 78, 0, 11, [404, 5195]), (112, 58, 0, 0, 5, [])]
def bX11_layWide_5 : List In := [(112, 64, 0, 0, 0, [])]
def BX11_layWide : List (List In) := [bX11_layWide_0, bX11_layWide_1, bX11_layWide_2, bX11_layWide_3, bX11_layWide_4, bX11_layWide_5]
set_option maxRecDepth 100000 in
theorem mkX11_layWide : MkB 147 BX11_layWide := MkB_of (by decide +kernel)
theorem lX11_layWide : (sgD 147).2.2.1 = 5 := rfl
theorem eX11_layWide_0 : BX11_layWide.getD 0 [] = bX11_layWide_0 := rfl
theorem eX11_layWide_1 : BX11_layWide.getD 1 [] = bX11_layWide_1 := rfl
theorem eX11_layWide_2 : BX11_layWide.getD 2 [] = bX11_layWide_2 := rfl
theorem eX11_layWide_3 : BX11_layWide.getD 3 [] = bX11_layWide_3 := rfl
theorem eX11_layWide_4 : BX11_layWide.getD 4 [] = bX11_layWide_4 := rfl
theorem eX11_layWide_5 : BX11_layWide.getD 5 [] = bX11_layWide_5 := rfl
def bX11_makeWords_0 : List In := [(0, 6, 0, 1, 0, []), (1, 4, 0, 1, 1, []), (2, 1, 3, 0, 0, []), (3, 4, 0, 1, 2, []), (4, 1, -6, 1, 0, []), (6, 1, -6, 1, 0, []), (8, 75, 6201, 284, 6, [102, 11]), (11, 7, 0, 1, 3, []), (12, 1, 0, 0, 0, []), (13, 7, 0, 0, 4, []), (15, 58, 0, 0, 1001, [])]
def bX11_makeWords_1 : List In := [(15, 4, 0, 0, 4, []), (17, 6, 0, 1, 0, []), (18, 39, 24, 0, 11, [1325531617, 75, 5141]), (21, 4, 0, 1, 2, []), (22, 45, 0, 0, 0, []), (23, 56, 3, 0, 2, []), (26, 6, 0, 1, 0, []), (27, 39, 9, 0, 11, [1124208385, 37, 5126]), (30, 1, 8, 1, 0, []), (32, 4, 0, 1, 3, []), (33, 13, 0, 0, 0, []), (34, 4, 0, 0, 4, []), (36, 11, 0, 0, 0, []), (37, 6, 0, 1, 0, []), (38, 39, 25, 0, 11, [1342312193, 78, 5142]), (41, 1, 8, 1, 0, []), (43, 4, 0, 1, 2, []), (44, 13, 0, 0, 0, []), (45, 4, 0, 0, 4, []), (47, 11, 0, 0, 0, []), (48, 45, 0, 0, 0, []), (49, 50, 0, 0, 0, []), (50, 10, 1, 0, 4, []), (53, 57, 0, 0, 1001, [])]
def bX11_makeWords_2 : List In := [(56, 6, 0, 1, 0, []), (57, 39, 8, 0, 11, [1107427809, 34, 5125]), (60, 4, 0, 1, 3, []), (61, 6, 0, 1, 0, []), (62, 39, 24, 0, 11, [1325531617, 75, 5141]), (65, 4, 0, 1, 2, []), (66, 45, 0, 0, 0, []), (67, 50, 0, 0, 0, []), (68, 4, 0, 1, 3, []), (69, 60, 0, 0, 0, [])]
def BX11_makeWords : List (List In) := [bX11_makeWords_0, bX11_makeWords_1, bX11_makeWords_2]
set_option maxRecDepth 100000 in
theorem mkX11_makeWords : MkB 148 BX11_makeWords := MkB_of (by decide +kernel)
theorem lX11_makeWords : (sgD 148).2.2.1 = 5 := rfl
theorem eX11_makeWords_0 : BX11_makeWords.getD 0 [] = bX11_makeWords_0 := rfl
theorem eX11_makeWords_1 : BX11_makeWords.getD 1 [] = bX11_makeWords_1 := rfl
theorem eX11_makeWords_2 : BX11_makeWords.getD 2 [] = bX11_makeWords_2 := rfl
def bX11_rule_0 : List In := [(0, 4, 0, 1, 1, []), (1, 65, 6129, 204, 1, [98, 0]), (4, 55, 0, 0, 1, []), (7, 4, 0, 1, 2, []), (8, 1, -1, 0, 0, []), (9, 56, 0, 0, 2, []), (12, 6, 0, 1, 0, []), (13, 4, 0, 1, 2, []), (14, 75, 6197, 267, 2, [99, 11]), (17, 55, 1, 0, 2, []), (20, 58, 0, 0, 1, [])]
def bX11_rule_1 : List In := [(20, 1, -1, 0, 0, []), (21, 60, 0, 0, 0, [])]
def bX11_rule_2 : List In := [(22, 6, 0, 1, 0, []), (23, 37, 38, 0, 11, [349, 5155]), (26, 1, 6, 1, 0, []), (28, 56, 1, 0, 3, []), (31, 1, -4, 1, 0, []), (33, 60, 0, 0, 0, [])]
def bX11_rule_3 : List In := [(34, 6, 0, 1, 0, []), (35, 39, 36, 0, 11, [1493303345, 105, 5153]), (38, 6, 0, 1, 0, []), (39, 37, 38, 0, 11, [349, 5155]), (42, 4, 0, 1, 1, []), (43, 50, 0, 0, 0, []), (44, 6, 0, 1, 0, []), (45, 39, 37, 0, 11, [1510080561, 108, 5154]), (48, 6, 0, 1, 0, []), (49, 37, 38, 0, 11, [349, 5155]), (52, 4, 0, 1, 2, []), (53, 50, 0, 0, 0, []), (54, 6, 0, 1, 0, []), (55, 35, 0, 0, 0, []), (56, 37, 38, 0, 11, [349, 5155]), (59, 1, 1, 0, 0, []), (60, 11, 0, 0, 0, []), (61, 42, 38, 0, 11, [349, 5155]), (64, 6, 0, 1, 0, []), (65, 37, 38, 0, 11, [349, 5155]), (68, 60, 0, 0, 0, [])]
def BX11_rule : List (List In) := [bX11_rule_0, bX11_rule_1, bX11_rule_2, bX11_rule_3]
set_option maxRecDepth 100000 in
theorem mkX11_rule : MkB 149 BX11_rule := MkB_of (by decide +kernel)
theorem lX11_rule : (sgD 149).2.2.1 = 3 := rfl
theorem eX11_rule_0 : BX11_rule.getD 0 [] = bX11_rule_0 := rfl
theorem eX11_rule_1 : BX11_rule.getD 1 [] = bX11_rule_1 := rfl
theorem eX11_rule_2 : BX11_rule.getD 2 [] = bX11_rule_2 := rfl
theorem eX11_rule_3 : BX11_rule.getD 3 [] = bX11_rule_3 := rfl
def bX11_term_0 : List In := [(0, 4, 0, 1, 1, []), (1, 65, 7137, 368, 1, [100, 0]), (4, 55, 1, 0, 1, []), (7, 1, -1, 0, 0, []), (8, 60, 0, 0, 0, [])]
def bX11_term_1 : List In := [(9, 4, 0, 1, 2, []), (10, 32, 0, 0, 0, []), (11, 2, 1, 0, 1, []), (12, 2, 99, 1, 0, [265, 6136]), (15, 65, 6133, 200, 3, [31, 0]), (18, 55, 0, 0, 2, []), (21, 4, 0, 1, 3, []), (22, 32, 0, 0, 0, []), (23, 2, 1, 0, 1, []), (24, 2, 99, 1, 0, [265, 6136]), (27, 65, 6133, 200, 3, [31, 0]), (30, 55, 1, 0, 3, []), (33, 58, 0, 0, 2, [])]
def bX11_term_2 : List In := [(33, 1, -2, 1, 0, []), (35, 60, 0, 0, 0, [])]
def bX11_term_3 : List In := [(36, 6, 0, 1, 0, []), (37, 37, 54, 0, 11, [389, 5171]), (40, 1, 6, 1, 0, []), (42, 56, 1, 0, 4, []), (45, 1, -4, 1, 0, []), (47, 60, 0, 0, 0, [])]
def bX11_term_4 : List In := [(48, 6, 0, 1, 0, []), (49, 39, 52, 0, 11, [1694629937, 141, 5169]), (52, 6, 0, 1, 0, []), (53, 37, 54, 0, 11, [389, 5171]), (56, 4, 0, 1, 1, []), (57, 50, 0, 0, 0, []), (58, 6, 0, 1, 0, []), (59, 39, 51, 0, 11, [1677852721, 138, 5168]), (62, 6, 0, 1, 0, []), (63, 37, 54, 0, 11, [389, 5171]), (66, 4, 0, 1, 2, []), (67, 50, 0, 0, 0, []), (68, 6, 0, 1, 0, []), (69, 39, 53, 0, 11, [1711407153, 144, 5170]), (72, 6, 0, 1, 0, []), (73, 37, 54, 0, 11, [389, 5171]), (76, 4, 0, 1, 3, []), (77, 50, 0, 0, 0, []), (78, 6, 0, 1, 0, []), (79, 35, 0, 0, 0, []), (80, 37, 54, 0, 11, [389, 5171]), (83, 1, 1, 0, 0, []), (84, 11, 0, 0, 0, []), (85, 42, 54, 0, 11, [389, 5171]), (88, 6, 0, 1, 0, []), (89, 37, 54, 0, 11, [389, 5171]), (92, 60, 0, 0, 0, [])]
def BX11_term : List (List In) := [bX11_term_0, bX11_term_1, bX11_term_2, bX11_term_3, bX11_term_4]
set_option maxRecDepth 100000 in
theorem mkX11_term : MkB 150 BX11_term := MkB_of (by decide +kernel)
theorem lX11_term : (sgD 150).2.2.1 = 4 := rfl
theorem eX11_term_0 : BX11_term.getD 0 [] = bX11_term_0 := rfl
theorem eX11_term_1 : BX11_term.getD 1 [] = bX11_term_1 := rfl
theorem eX11_term_2 : BX11_term.getD 2 [] = bX11_term_2 := rfl
theorem eX11_term_3 : BX11_term.getD 3 [] = bX11_term_3 := rfl
theorem eX11_term_4 : BX11_term.getD 4 [] = bX11_term_4 := rfl
def bX11_told_0 : List In := [(0, 4, 0, 1, 1, []), (1, 32, 0, 0, 0, []), (2, 2, 10, 1, 0, [208, 7031]), (5, 2, 15, 1, 0, [485, 8043]), (8, 65, 6133, 200, 3, [31, 0]), (11, 55, 0, 0, 1, []), (14, 6, 0, 1, 0, []), (15, 39, 11, 0, 11, [1140981811, 40, 5128]), (18, 4, 0, 1, 1, []), (19, 1, 10, 1, 0, []), (21, 12, 0, 0, 0, []), (22, 47, 0, 0, 0, []), (23, 65, 8044, 487, 1, [103, 0]), (26, 60, 0, 0, 0, [])]
def bX11_told_1 : List In := [(27, 4, 0, 1, 1, []), (28, 32, 0, 0, 0, []), (29, 2, 20, 1, 0, [399, 7191]), (32, 2, 25, 1, 0, [491, 8047]), (35, 65, 6133, 200, 3, [31, 0]), (38, 55, 0, 0, 2, []), (41, 6, 0, 1, 0, []), (42, 39, 15, 0, 11, [1191313457, 50, 5132]), (45, 4, 0, 1, 1, []), (46, 1, 20, 1, 0, []), (48, 12, 0, 0, 0, []), (49, 45, 0, 0, 0, []), (50, 60, 0, 0, 0, [])]
def bX11_told_2 : List In := [(51, 4, 0, 1, 1, []), (52, 59, 0, 8, 12, [3, 4, 5, 6, 7, 8, 9, 10, 11])]
def bX11_told_3 : List In := [(104, 6, 0, 1, 0, []), (105, 37, 10, 0, 11, [214, 5127]), (108, 60, 0, 0, 0, [])]
def bX11_told_4 : List In := [(109, 6, 0, 1, 0, []), (110, 37, 13, 0, 11, [210, 5130]), (113, 60, 0, 0, 0, [])]
def bX11_told_5 : List In := [(114, 6, 0, 1, 0, []), (115, 37, 38, 0, 11, [349, 5155]), (118, 60, 0, 0, 0, [])]
def bX11_told_6 : List In := [(119, 6, 0, 1, 0, []), (120, 37, 43, 0, 11, [355, 5160]), (123, 60, 0, 0, 0, [])]
def bX11_told_7 : List In := [(124, 6, 0, 1, 0, []), (125, 37, 35, 0, 11, [325, 5152]), (128, 60, 0, 0, 0, [])]
def bX11_told_8 : List In := [(129, 6, 0, 1, 0, []), (130, 37, 50, 0, 11, [371, 5167]), (133, 60, 0, 0, 0, [])]
def bX11_told_9 : List In := [(134, 6, 0, 1, 0, []), (135, 37, 54, 0, 11, [389, 5171]), (138, 60, 0, 0, 0, [])]
def bX11_told_10 : List In := [(139, 6, 0, 1, 0, []), (140, 37, 60, 0, 11, [401, 5177]), (143, 60, 0, 0, 0, [])]
def bX11_told_11 : List In := [(144, 6, 0, 1, 0, []), (145, 37, 16, 0, 11, [239, 5133]), (148, 60, 0, 0, 0, [])]
def bX11_told_12 : List In := [(149, 1, -2, 1, 0, []), (151, 60, 0, 0, 0, [])]
def BX11_told : List (List In) := [bX11_told_0, bX11_told_1, bX11_told_2, bX11_told_3, bX11_told_4, bX11_told_5, bX11_told_6, bX11_told_7, bX11_told_8, bX11_told_9, bX11_told_10, bX11_told_11, bX11_told_12]
set_option maxRecDepth 100000 in
theorem mkX11_told : MkB 151 BX11_told := MkB_of (by decide +kernel)
theorem lX11_told : (sgD 151).2.2.1 = 2 := rfl
theorem eX11_told_0 : BX11_told.getD 0 [] = bX11_told_0 := rfl
theorem eX11_told_1 : BX11_told.getD 1 [] = bX11_told_1 := rfl
theorem eX11_told_2 : BX11_told.getD 2 [] = bX11_told_2 := rfl
theorem eX11_told_3 : BX11_told.getD 3 [] = bX11_told_3 := rfl
theorem eX11_told_4 : BX11_told.getD 4 [] = bX11_told_4 := rfl
theorem eX11_told_5 : BX11_told.getD 5 [] = bX11_told_5 := rfl
theorem eX11_told_6 : BX11_told.getD 6 [] = bX11_told_6 := rfl
theorem eX11_told_7 : BX11_told.getD 7 [] = bX11_told_7 := rfl
theorem eX11_told_8 : BX11_told.getD 8 [] = bX11_told_8 := rfl
theorem eX11_told_9 : BX11_told.getD 9 [] = bX11_told_9 := rfl
theorem eX11_told_10 : BX11_told.getD 10 [] = bX11_told_10 := rfl
theorem eX11_told_11 : BX11_told.getD 11 [] = bX11_told_11 := rfl
theorem eX11_told_12 : BX11_told.getD 12 [] = bX11_told_12 := rfl
def bX11_word_0 : List In := [(0, 4, 0, 1, 1, []), (1, 65, 6129, 204, 1, [98, 0]), (4, 55, 1, 0, 1, []), (7, 1, -1, 0, 0, []), (8, 60, 0, 0, 0, [])]
def bX11_word_1 : List In := [(9, 4, 0, 1, 2, []), (10, 32, 0, 0, 0, []), (11, 2, 1, 0, 1, []), (12, 2, 99, 1, 0, [265, 6136]), (15, 65, 6133, 200, 3, [31, 0]), (18, 55, 1, 0, 2, []), (21, 1, -2, 1, 0, []), (23, 60, 0, 0, 0, [])]
def bX11_word_2 : List In := [(24, 6, 0, 1, 0, []), (25, 39, 15, 0, 11, [1191313457, 50, 5132]), (28, 4, 0, 1, 1, []), (29, 45, 0, 0, 0, []), (30, 1, 8, 1, 0, []), (32, 56, 1, 0, 3, []), (35, 1, -4, 1, 0, []), (37, 60, 0, 0, 0, [])]
def bX11_word_3 : List In := [(38, 6, 0, 1, 0, []), (39, 39, 14, 0, 11, [1174536577, 47, 5131]), (42, 1, 8, 1, 0, []), (44, 4, 0, 1, 1, []), (45, 13, 0, 0, 0, []), (46, 6, 0, 1, 0, []), (47, 39, 15, 0, 11, [1191313457, 50, 5132]), (50, 4, 0, 1, 1, []), (51, 45, 0, 0, 0, []), (52, 11, 0, 0, 0, []), (53, 4, 0, 1, 2, []), (54, 50, 0, 0, 0, []), (55, 6, 0, 1, 0, []), (56, 39, 15, 0, 11, [1191313457, 50, 5132]), (59, 4, 0, 1, 1, []), (60, 36, 0, 0, 0, []), (61, 45, 0, 0, 0, []), (62, 1, 1, 0, 0, []), (63, 11, 0, 0, 0, []), (64, 50, 0, 0, 0, []), (65, 6, 0, 1, 0, []), (66, 39, 15, 0, 11, [1191313457, 50, 5132]), (69, 4, 0, 1, 1, []), (70, 45, 0, 0, 0, []), (71, 60, 0, 0, 0, [])]
def BX11_word : List (List In) := [bX11_word_0, bX11_word_1, bX11_word_2, bX11_word_3]
set_option maxRecDepth 100000 in
theorem mkX11_word : MkB 152 BX11_word := MkB_of (by decide +kernel)
theorem lX11_word : (sgD 152).2.2.1 = 3 := rfl
theorem eX11_word_0 : BX11_word.getD 0 [] = bX11_word_0 := rfl
theorem eX11_word_1 : BX11_word.getD 1 [] = bX11_word_1 := rfl
theorem eX11_word_2 : BX11_word.getD 2 [] = bX11_word_2 := rfl
theorem eX11_word_3 : BX11_word.getD 3 [] = bX11_word_3 := rfl
def bX11_clash_0 : List In := [(0, 6, 0, 1, 0, []), (1, 4, 0, 1, 1, []), (2, 75, 7027, 306, 2, [143, 11]), (5, 55, 0, 0, 1, []), (8, 6, 0, 1, 0, []), (9, 4, 0, 1, 2, []), (10, 75, 7027, 306, 2, [143, 11]), (13, 55, 1, 0, 2, []), (16, 58, 0, 0, 1, [])]
def bX11_clash_1 : List In := [(16, 1, -1, 0, 0, []), (17, 60, 0, 0, 0, [])]
def bX11_clash_2 : List In := [(18, 6, 0, 1, 0, []), (19, 4, 0, 1, 1, []), (20, 77, 7032, 309, 2, [46, 11]), (23, 6, 0, 1, 0, []), (24, 4, 0, 1, 2, []), (25, 77, 7032, 309, 2, [46, 11]), (28, 26, 0, 0, 0, []), (29, 8, 0, 0, 4, []), (31, 1, 0, 0, 0, []), (32, 7, 0, 0, 6, []), (34, 1, 0, 0, 0, []), (35, 7, 0, 0, 7, []), (37, 58, 0, 0, 1003, [])]
def bX11_clash_3 : List In := [(37, 4, 0, 0, 7, []), (39, 6, 0, 1, 0, []), (40, 37, 10, 0, 11, [214, 5127]), (43, 56, 3, 0, 8, []), (46, 1, 0, 0, 0, []), (47, 7, 0, 0, 8, []), (49, 58, 0, 0, 1004, [])]
def bX11_clash_4 : List In := [(49, 4, 0, 0, 8, []), (51, 1, 5, 0, 0, []), (52, 56, 3, 0, 7, []), (55, 6, 0, 1, 0, []), (56, 4, 0, 0, 7, []), (58, 75, 6197, 267, 2, [99, 11]), (61, 55, 0, 0, 7, []), (64, 6, 0, 1, 0, []), (65, 6, 0, 1, 0, []), (66, 4, 0, 1, 1, []), (67, 77, 7032, 309, 2, [46, 11]), (70, 5, 0, 0, 4, []), (72, 2, -1, 1, 0, [341, 7095]), (75, 28, 0, 0, 0, []), (76, 26, 0, 0, 0, []), (77, 6, 0, 1, 0, []), (78, 4, 0, 1, 2, []), (79, 77, 7032, 309, 2, [46, 11]), (82, 5, 0, 0, 4, []), (84, 2, -1, 1, 0, [341, 7095]), (87, 28, 0, 0, 0, []), (88, 26, 0, 0, 0, []), (89, 4, 0, 0, 7, []), (91, 4, 0, 0, 8, []), (93, 75, 7096, 343, 5, [140, 11]), (96, 55, 0, 0, 6, []), (99, 4, 0, 0, 6, []), (101, 4, 0, 1, 3, []), (102, 56, 1, 0, 5, []), (105, 1, 10, 1, 0, []), (107, 4, 0, 0, 7, []), (109, 13, 0, 0, 0, []), (110, 4, 0, 0, 8, []), (112, 11, 0, 0, 0, []), (113, 60, 0, 0, 0, [])]
def bX11_clash_5 : List In := [(114, 10, 1, 0, 6, []), (117, 58, 0, 0, 6, [])]
def bX11_clash_6 : List In := [(117, 10, 1, 0, 8, []), (120, 57, 0, 0, 1004, [])]
def bX11_clash_7 : List In := [(123, 10, 1, 0, 7, []), (126, 57, 0, 0, 1003, [])]
def bX11_clash_8 : List In := [(129, 4, 0, 1, 3, []), (130, 1, -1, 0, 0, []), (131, 56, 1, 0, 9, []), (134, 4, 0, 0, 6, []), (136, 57, 0, 0, 10, [])]
def bX11_clash_9 : List In := [(139, 1, -6, 1, 0, []), (141, 58, 0, 0, 10, [])]
def bX11_clash_10 : List In := [(141, 60, 0, 0, 0, [])]
def BX11_clash : List (List In) := [bX11_clash_0, bX11_clash_1, bX11_clash_2, bX11_clash_3, bX11_clash_4, bX11_clash_5, bX11_clash_6, bX11_clash_7, bX11_clash_8, bX11_clash_9, bX11_clash_10]
set_option maxRecDepth 100000 in
theorem mkX11_clash : MkB 170 BX11_clash := MkB_of (by decide +kernel)
theorem lX11_clash : (sgD 170).2.2.1 = 9 := rfl
theorem eX11_clash_0 : BX11_clash.getD 0 [] = bX11_clash_0 := rfl
theorem eX11_clash_1 : BX11_clash.getD 1 [] = bX11_clash_1 := rfl
theorem eX11_clash_2 : BX11_clash.getD 2 [] = bX11_clash_2 := rfl
theorem eX11_clash_3 : BX11_clash.getD 3 [] = bX11_clash_3 := rfl
theorem eX11_clash_4 : BX11_clash.getD 4 [] = bX11_clash_4 := rfl
theorem eX11_clash_5 : BX11_clash.getD 5 [] = bX11_clash_5 := rfl
theorem eX11_clash_6 : BX11_clash.getD 6 [] = bX11_clash_6 := rfl
theorem eX11_clash_7 : BX11_clash.getD 7 [] = bX11_clash_7 := rfl
theorem eX11_clash_8 : BX11_clash.getD 8 [] = bX11_clash_8 := rfl
theorem eX11_clash_9 : BX11_clash.getD 9 [] = bX11_clash_9 := rfl
theorem eX11_clash_10 : BX11_clash.getD 10 [] = bX11_clash_10 := rfl
def bX11_edition_0 : List In := [(0, 6, 0, 1, 0, []), (1, 4, 0, 1, 1, []), (2, 75, 7027, 306, 2, [143, 11]), (5, 55, 0, 0, 1, []), (8, 4, 0, 1, 2, []), (9, 32, 0, 0, 0, []), (10, 2, 0, 0, 0, []), (11, 2, 2, 1, 0, [273, 6141]), (14, 65, 6133, 200, 3, [31, 0]), (17, 55, 1, 0, 2, []), (20, 58, 0, 0, 1, [])]
def bX11_edition_1 : List In := [(20, 1, -1, 0, 0, []), (21, 60, 0, 0, 0, [])]
def bX11_edition_2 : List In := [(22, 4, 0, 1, 3, []), (23, 32, 0, 0, 0, []), (24, 2, 10, 1, 0, [208, 7031]), (27, 2, 60, 1, 0, [304, 7010]), (30, 65, 6133, 200, 3, [31, 0]), (33, 55, 0, 0, 3, []), (36, 4, 0, 0, 4, []), (38, 32, 0, 0, 0, []), (39, 2, 10, 1, 0, [208, 7031]), (42, 2, 20, 1, 0, [399, 7191]), (45, 65, 6133, 200, 3, [31, 0]), (48, 55, 1, 0, 4, []), (51, 58, 0, 0, 3, [])]
def bX11_edition_3 : List In := [(51, 1, -2, 1, 0, []), (53, 60, 0, 0, 0, [])]
def bX11_edition_4 : List In := [(54, 6, 0, 1, 0, []), (55, 37, 60, 0, 11, [401, 5177]), (58, 1, 6, 1, 0, []), (60, 56, 1, 0, 5, []), (63, 1, -4, 1, 0, []), (65, 60, 0, 0, 0, [])]
def bX11_edition_5 : List In := [(66, 6, 0, 1, 0, []), (67, 39, 56, 0, 11, [1744961587, 150, 5173]), (70, 6, 0, 1, 0, []), (71, 37, 60, 0, 11, [401, 5177]), (74, 6, 0, 1, 0, []), (75, 4, 0, 1, 1, []), (76, 77, 7032, 309, 2, [46, 11]), (79, 52, 0, 0, 0, []), (80, 6, 0, 1, 0, []), (81, 39, 57, 0, 11, [1761738801, 153, 5174]), (84, 6, 0, 1, 0, []), (85, 37, 60, 0, 11, [401, 5177]), (88, 4, 0, 1, 2, []), (89, 50, 0, 0, 0, []), (90, 6, 0, 1, 0, []), (91, 39, 58, 0, 11, [1778516017, 156, 5175]), (94, 6, 0, 1, 0, []), (95, 37, 60, 0, 11, [401, 5177]), (98, 4, 0, 1, 3, []), (99, 50, 0, 0, 0, []), (100, 6, 0, 1, 0, []), (101, 39, 59, 0, 11, [1795293233, 159, 5176]), (104, 6, 0, 1, 0, []), (105, 37, 60, 0, 11, [401, 5177]), (108, 4, 0, 0, 4, []), (110, 50, 0, 0, 0, []), (111, 6, 0, 1, 0, []), (112, 35, 0, 0, 0, []), (113, 37, 60, 0, 11, [401, 5177]), (116, 1, 1, 0, 0, []), (117, 11, 0, 0, 0, []), (118, 42, 60, 0, 11, [401, 5177]), (121, 6, 0, 1, 0, []), (122, 37, 60, 0, 11, [401, 5177]), (125, 1, 1, 0, 0, []), (126, 12, 0, 0, 0, []), (127, 60, 0, 0, 0, [])]
def BX11_edition : List (List In) := [bX11_edition_0, bX11_edition_1, bX11_edition_2, bX11_edition_3, bX11_edition_4, bX11_edition_5]
set_option maxRecDepth 100000 in
theorem mkX11_edition : MkB 171 BX11_edition := MkB_of (by decide +kernel)
theorem lX11_edition : (sgD 171).2.2.1 = 5 := rfl
theorem eX11_edition_0 : BX11_edition.getD 0 [] = bX11_edition_0 := rfl
theorem eX11_edition_1 : BX11_edition.getD 1 [] = bX11_edition_1 := rfl
theorem eX11_edition_2 : BX11_edition.getD 2 [] = bX11_edition_2 := rfl
theorem eX11_edition_3 : BX11_edition.getD 3 [] = bX11_edition_3 := rfl
theorem eX11_edition_4 : BX11_edition.getD 4 [] = bX11_edition_4 := rfl
theorem eX11_edition_5 : BX11_edition.getD 5 [] = bX11_edition_5 := rfl
def bX11_isUnlike_0 : List In := [(0, 6, 0, 1, 0, []), (1, 4, 0, 1, 1, []), (2, 4, 0, 1, 2, []), (3, 75, 7148, 374, 3, [43, 11]), (6, 7, 0, 1, 3, []), (7, 4, 0, 1, 3, []), (8, 55, 2, 0, 1, []), (11, 6, 0, 1, 0, []), (12, 39, 24, 0, 11, [1325531617, 75, 5141]), (15, 4, 0, 1, 2, []), (16, 45, 0, 0, 0, []), (17, 55, 0, 0, 1, []), (20, 6, 0, 1, 0, []), (21, 4, 0, 1, 1, []), (22, 4, 0, 1, 2, []), (23, 75, 7144, 380, 3, [144, 11]), (26, 55, 0, 0, 2, []), (29, 58, 0, 0, 1, [])]
def bX11_isUnlike_1 : List In := [(29, 1, 0, 0, 0, []), (30, 61, 0, 0, 0, [])]
def bX11_isUnlike_2 : List In := [(31, 1, 0, 0, 0, []), (32, 7, 0, 0, 4, []), (34, 1, 0, 0, 0, []), (35, 7, 0, 0, 5, []), (37, 58, 0, 0, 1003, [])]
def bX11_isUnlike_3 : List In := [(37, 4, 0, 0, 5, []), (39, 6, 0, 1, 0, []), (40, 37, 54, 0, 11, [389, 5171]), (43, 56, 3, 0, 7, []), (46, 4, 0, 0, 4, []), (48, 55, 1, 0, 4, []), (51, 6, 0, 1, 0, []), (52, 39, 52, 0, 11, [1694629937, 141, 5169]), (55, 4, 0, 0, 5, []), (57, 45, 0, 0, 0, []), (58, 4, 0, 1, 1, []), (59, 56, 1, 0, 5, []), (62, 6, 0, 1, 0, []), (63, 4, 0, 1, 3, []), (64, 1, 0, 0, 0, []), (65, 6, 0, 1, 0, []), (66, 39, 51, 0, 11, [1677852721, 138, 5168]), (69, 4, 0, 0, 5, []), (71, 45, 0, 0, 0, []), (72, 75, 7183, 392, 4, [41, 11]), (75, 6, 0, 1, 0, []), (76, 4, 0, 1, 3, []), (77, 1, 1, 0, 0, []), (78, 6, 0, 1, 0, []), (79, 39, 53, 0, 11, [1711407153, 144, 5170]), (82, 4, 0, 0, 5, []), (84, 45, 0, 0, 0, []), (85, 75, 7183, 392, 4, [41, 11]), (88, 56, 0, 0, 5, []), (91, 58, 0, 0, 4, [])]
def bX11_isUnlike_4 : List In := [(91, 1, 1, 0, 0, []), (92, 57, 0, 0, 6, [])]
def bX11_isUnlike_5 : List In := [(95, 1, 0, 0, 0, []), (96, 58, 0, 0, 6, [])]
def bX11_isUnlike_6 : List In := [(96, 7, 0, 0, 4, []), (98, 10, 1, 0, 5, []), (101, 57, 0, 0, 1003, [])]
def bX11_isUnlike_7 : List In := [(104, 4, 0, 0, 4, []), (106, 61, 0, 0, 0, [])]
def BX11_isUnlike : List (List In) := [bX11_isUnlike_0, bX11_isUnlike_1, bX11_isUnlike_2, bX11_isUnlike_3, bX11_isUnlike_4, bX11_isUnlike_5, bX11_isUnlike_6, bX11_isUnlike_7]
set_option maxRecDepth 100000 in
theorem mkX11_isUnlike : MkB 172 BX11_isUnlike := MkB_of (by decide +kernel)
theorem lX11_isUnlike : (sgD 172).2.2.1 = 6 := rfl
theorem eX11_isUnlike_0 : BX11_isUnlike.getD 0 [] = bX11_isUnlike_0 := rfl
theorem eX11_isUnlike_1 : BX11_isUnlike.getD 1 [] = bX11_isUnlike_1 := rfl
theorem eX11_isUnlike_2 : BX11_isUnlike.getD 2 [] = bX11_isUnlike_2 := rfl
theorem eX11_isUnlike_3 : BX11_isUnlike.getD 3 [] = bX11_isUnlike_3 := rfl
theorem eX11_isUnlike_4 : BX11_isUnlike.getD 4 [] = bX11_isUnlike_4 := rfl
theorem eX11_isUnlike_5 : BX11_isUnlike.getD 5 [] = bX11_isUnlike_5 := rfl
theorem eX11_isUnlike_6 : BX11_isUnlike.getD 6 [] = bX11_isUnlike_6 := rfl
theorem eX11_isUnlike_7 : BX11_isUnlike.getD 7 [] = bX11_isUnlike_7 := rfl
def bX11_mayGoUnder_0 : List In := [(0, 4, 0, 1, 1, []), (1, 1, -1, 0, 0, []), (2, 56, 0, 0, 1, []), (5, 6, 0, 1, 0, []), (6, 4, 0, 1, 1, []), (7, 75, 6193, 270, 2, [145, 11]), (10, 55, 0, 0, 2, []), (13, 6, 0, 1, 0, []), (14, 39, 6, 0, 11, [1073873377, 28, 5123]), (17, 4, 0, 1, 1, []), (18, 45, 0, 0, 0, []), (19, 55, 1, 0, 2, []), (22, 58, 0, 0, 1, [])]
def bX11_mayGoUnder_1 : List In := [(22, 1, 1, 0, 0, []), (23, 57, 0, 0, 3, [])]
def bX11_mayGoUnder_2 : List In := [(26, 1, 0, 0, 0, []), (27, 58, 0, 0, 3, [])]
def bX11_mayGoUnder_3 : List In := [(27, 61, 0, 0, 0, [])]
def BX11_mayGoUnder : List (List In) := [bX11_mayGoUnder_0, bX11_mayGoUnder_1, bX11_mayGoUnder_2, bX11_mayGoUnder_3]
set_option maxRecDepth 100000 in
theorem mkX11_mayGoUnder : MkB 173 BX11_mayGoUnder := MkB_of (by decide +kernel)
theorem lX11_mayGoUnder : (sgD 173).2.2.1 = 2 := rfl
theorem eX11_mayGoUnder_0 : BX11_mayGoUnder.getD 0 [] = bX11_mayGoUnder_0 := rfl
theorem eX11_mayGoUnder_1 : BX11_mayGoUnder.getD 1 [] = bX11_mayGoUnder_1 := rfl
theorem eX11_mayGoUnder_2 : BX11_mayGoUnder.getD 2 [] = bX11_mayGoUnder_2 := rfl
theorem eX11_mayGoUnder_3 : BX11_mayGoUnder.getD 3 [] = bX11_mayGoUnder_3 := rfl
def bX11_saySheet_0 : List In := [(0, 1, 0, 0, 0, []), (1, 7, 0, 1, 3, []), (2, 58, 0, 0, 1001, [])]
def bX11_saySheet_1 : List In := [(2, 4, 0, 1, 3, []), (3, 1, 60, 1, 0, []), (5, 56, 3, 0, 4, []), (8, 6, 0, 1, 0, []), (9, 39, 61, 0, 11, [1812071362, 162, 5178]), (12, 1, 60, 1, 0, []), (14, 4, 0, 1, 1, []), (15, 13, 0, 0, 0, []), (16, 4, 0, 1, 3, []), (17, 11, 0, 0, 0, []), (18, 6, 0, 1, 0, []), (19, 4, 0, 1, 3, []), (20, 75, 6197, 267, 2, [99, 11]), (23, 55, 0, 0, 2, []), (26, 6, 0, 1, 0, []), (27, 4, 0, 1, 3, []), (28, 75, 7052, 262, 2, [38, 11]), (31, 55, 0, 0, 2, []), (34, 1, 1, 0, 0, []), (35, 57, 0, 0, 3, [])]
def bX11_saySheet_2 : List In := [(38, 1, 0, 0, 0, []), (39, 58, 0, 0, 3, [])]
def bX11_saySheet_3 : List In := [(39, 51, 0, 0, 0, []), (40, 6, 0, 1, 0, []), (41, 39, 62, 0, 11, [1828848577, 165, 5179]), (44, 1, 60, 1, 0, []), (46, 4, 0, 1, 1, []), (47, 13, 0, 0, 0, []), (48, 4, 0, 1, 3, []), (49, 11, 0, 0, 0, []), (50, 1, 0, 0, 0, []), (51, 50, 0, 0, 0, []), (52, 10, 1, 0, 3, []), (55, 57, 0, 0, 1001, [])]
def bX11_saySheet_4 : List In := [(58, 1, 0, 0, 0, []), (59, 7, 0, 1, 3, []), (60, 58, 0, 0, 1005, [])]
def bX11_saySheet_5 : List In := [(60, 4, 0, 1, 3, []), (61, 6, 0, 1, 0, []), (62, 37, 33, 0, 11, [259, 5150]), (65, 56, 3, 0, 16, []), (68, 6, 0, 1, 0, []), (69, 39, 32, 0, 11, [1459749345, 99, 5149]), (72, 4, 0, 1, 3, []), (73, 45, 0, 0, 0, []), (74, 7, 0, 0, 4, []), (76, 1, 60, 1, 0, []), (78, 4, 0, 1, 1, []), (79, 13, 0, 0, 0, []), (80, 4, 0, 0, 4, []), (82, 11, 0, 0, 0, []), (83, 7, 0, 0, 5, []), (85, 4, 0, 1, 2, []), (86, 55, 1, 0, 6, []), (89, 1, -1, 0, 0, []), (90, 57, 0, 0, 7, [])]
def bX11_saySheet_6 : List In := [(93, 6, 0, 1, 0, []), (94, 4, 0, 1, 2, []), (95, 4, 0, 0, 4, []), (97, 75, 7148, 374, 3, [43, 11]), (100, 58, 0, 0, 7, [])]
def bX11_saySheet_7 : List In := [(100, 7, 0, 0, 6, []), (102, 4, 0, 0, 6, []), (104, 55, 2, 0, 8, []), (107, 6, 0, 1, 0, []), (108, 39, 24, 0, 11, [1325531617, 75, 5141]), (111, 4, 0, 0, 4, []), (113, 45, 0, 0, 0, []), (114, 55, 5, 0, 8, []), (117, 6, 0, 1, 0, []), (118, 4, 0, 1, 2, []), (119, 4, 0, 0, 4, []), (121, 75, 7144, 380, 3, [144, 11]), (124, 55, 1, 0, 8, []), (127, 1, 1, 0, 0, []), (128, 57, 0, 0, 9, [])]
def bX11_saySheet_8 : List In := [(131, 1, 0, 0, 0, []), (132, 58, 0, 0, 9, [])]
def bX11_saySheet_9 : List In := [(132, 7, 0, 0, 7, []), (134, 6, 0, 1, 0, []), (135, 39, 62, 0, 11, [1828848577, 165, 5179]), (138, 4, 0, 0, 5, []), (140, 4, 0, 0, 7, []), (142, 55, 0, 0, 10, []), (145, 6, 0, 1, 0, []), (146, 39, 48, 0, 11, [1644298625, 132, 5165]), (149, 1, 2, 0, 0, []), (150, 4, 0, 0, 6, []), (152, 13, 0, 0, 0, []), (153, 1, 1, 0, 0, []), (154, 11, 0, 0, 0, []), (155, 45, 0, 0, 0, []), (156, 57, 0, 0, 11, [])]
def bX11_saySheet_10 : List In := [(159, 6, 0, 1, 0, []), (160, 39, 24, 0, 11, [1325531617, 75, 5141]), (163, 4, 0, 0, 4, []), (165, 45, 0, 0, 0, []), (166, 58, 0, 0, 11, [])]
def bX11_saySheet_11 : List In := [(166, 50, 0, 0, 0, []), (167, 1, 0, 0, 0, []), (168, 7, 0, 0, 8, []), (170, 58, 0, 0, 1012, [])]
def bX11_saySheet_12 : List In := [(170, 4, 0, 0, 8, []), (172, 6, 0, 1, 0, []), (173, 39, 62, 0, 11, [1828848577, 165, 5179]), (176, 4, 0, 0, 5, []), (178, 45, 0, 0, 0, []), (179, 56, 3, 0, 15, []), (182, 6, 0, 1, 0, []), (183, 39, 63, 0, 11, [1845632513, 168, 5180]), (186, 1, 8, 1, 0, []), (188, 4, 0, 0, 5, []), (190, 13, 0, 0, 0, []), (191, 4, 0, 0, 8, []), (193, 11, 0, 0, 0, []), (194, 4, 0, 0, 7, []), (196, 55, 0, 0, 13, []), (199, 6, 0, 1, 0, []), (200, 39, 49, 0, 11, [1661078529, 135, 5166]), (203, 1, 16, 1, 0, []), (205, 4, 0, 0, 6, []), (207, 13, 0, 0, 0, []), (208, 1, 8, 1, 0, []), (210, 11, 0, 0, 0, []), (211, 4, 0, 0, 8, []), (213, 11, 0, 0, 0, []), (214, 45, 0, 0, 0, []), (215, 57, 0, 0, 14, [])]
def bX11_saySheet_13 : List In := [(218, 6, 0, 1, 0, []), (219, 39, 25, 0, 11, [1342312193, 78, 5142]), (222, 1, 8, 1, 0, []), (224, 4, 0, 0, 4, []), (226, 13, 0, 0, 0, []), (227, 4, 0, 0, 8, []), (229, 11, 0, 0, 0, []), (230, 45, 0, 0, 0, []), (231, 58, 0, 0, 14, [])]
def bX11_saySheet_14 : List In := [(231, 50, 0, 0, 0, []), (232, 10, 1, 0, 8, []), (235, 57, 0, 0, 1012, [])]
def bX11_saySheet_15 : List In := [(238, 10, 1, 0, 3, []), (241, 57, 0, 0, 1005, [])]
def bX11_saySheet_16 : List In := [(244, 64, 0, 0, 0, [])]
def BX11_saySheet : List (List In) := [bX11_saySheet_0, bX11_saySheet_1, bX11_saySheet_2, bX11_saySheet_3, bX11_saySheet_4, bX11_saySheet_5, bX11_saySheet_6, bX11_saySheet_7, bX11_saySheet_8, bX11_saySheet_9, bX11_saySheet_10, bX11_saySheet_11, bX11_saySheet_12, bX11_saySheet_13, bX11_saySheet_14, bX11_saySheet_15, bX11_saySheet_16]
set_option maxRecDepth 100000 in
theorem mkX11_saySheet : MkB 174 BX11_saySheet := MkB_of (by decide +kernel)
theorem lX11_saySheet : (sgD 174).2.2.1 = 9 := rfl
theorem eX11_saySheet_0 : BX11_saySheet.getD 0 [] = bX11_saySheet_0 := rfl
theorem eX11_saySheet_1 : BX11_saySheet.getD 1 [] = bX11_saySheet_1 := rfl
theorem eX11_saySheet_2 : BX11_saySheet.getD 2 [] = bX11_saySheet_2 := rfl
theorem eX11_saySheet_3 : BX11_saySheet.getD 3 [] = bX11_saySheet_3 := rfl
theorem eX11_saySheet_4 : BX11_saySheet.getD 4 [] = bX11_saySheet_4 := rfl
theorem eX11_saySheet_5 : BX11_saySheet.getD 5 [] = bX11_saySheet_5 := rfl
theorem eX11_saySheet_6 : BX11_saySheet.getD 6 [] = bX11_saySheet_6 := rfl
theorem eX11_saySheet_7 : BX11_saySheet.getD 7 [] = bX11_saySheet_7 := rfl
theorem eX11_saySheet_8 : BX11_saySheet.getD 8 [] = bX11_saySheet_8 := rfl
theorem eX11_saySheet_9 : BX11_saySheet.getD 9 [] = bX11_saySheet_9 := rfl
theorem eX11_saySheet_10 : BX11_saySheet.getD 10 [] = bX11_saySheet_10 := rfl
theorem eX11_saySheet_11 : BX11_saySheet.getD 11 [] = bX11_saySheet_11 := rfl
theorem eX11_saySheet_12 : BX11_saySheet.getD 12 [] = bX11_saySheet_12 := rfl
theorem eX11_saySheet_13 : BX11_saySheet.getD 13 [] = bX11_saySheet_13 := rfl
theorem eX11_saySheet_14 : BX11_saySheet.getD 14 [] = bX11_saySheet_14 := rfl
theorem eX11_saySheet_15 : BX11_saySheet.getD 15 [] = bX11_saySheet_15 := rfl
theorem eX11_saySheet_16 : BX11_saySheet.getD 16 [] = bX11_saySheet_16 := rfl
def bX11_setSentence_0 : List In := [(0, 1, 60, 1, 0, []), (2, 4, 0, 1, 1, []), (3, 13, 0, 0, 0, []), (4, 4, 0, 1, 2, []), (5, 11, 0, 0, 0, []), (6, 7, 0, 0, 5, []), (8, 6, 0, 1, 0, []), (9, 4, 0, 1, 1, []), (10, 4, 0, 1, 2, []), (11, 79, 7220, 440, 3, [147, 11]), (14, 6, 0, 1, 0, []), (15, 4, 0, 1, 1, []), (16, 4, 0, 1, 2, []), (17, 4, 0, 1, 3, []), (18, 79, 7231, 443, 4, [139, 11]), (21, 6, 0, 1, 0, []), (22, 39, 66, 0, 11, [1895957441, 177, 5183]), (25, 4, 0, 0, 5, []), (27, 45, 0, 0, 0, []), (28, 55, 1, 0, 3, []), (31, 6, 0, 1, 0, []), (32, 39, 64, 0, 11, [1862403009, 171, 5181]), (35, 4, 0, 0, 5, []), (37, 6, 0, 1, 0, []), (38, 37, 81, 0, 11, [428, 5198]), (41, 1, 1, 0, 0, []), (42, 11, 0, 0, 0, []), (43, 4, 0, 0, 4, []), (45, 56, 5, 0, 1, []), (48, 6, 0, 1, 0, []), (49, 37, 80, 0, 11, [434, 5197]), (52, 1, 1, 0, 0, []), (53, 11, 0, 0, 0, []), (54, 57, 0, 0, 2, [])]
def bX11_setSentence_1 : List In := [(57, 6, 0, 1, 0, []), (58, 37, 80, 0, 11, [434, 5197]), (61, 58, 0, 0, 2, [])]
def bX11_setSentence_2 : List In := [(61, 50, 0, 0, 0, []), (62, 6, 0, 1, 0, []), (63, 39, 65, 0, 11, [1879180225, 174, 5182]), (66, 4, 0, 0, 5, []), (68, 6, 0, 1, 0, []), (69, 39, 64, 0, 11, [1862403009, 171, 5181]), (72, 4, 0, 0, 5, []), (74, 45, 0, 0, 0, []), (75, 50, 0, 0, 0, []), (76, 64, 0, 0, 0, [])]
def bX11_setSentence_3 : List In := [(77, 1, 0, 0, 0, []), (78, 7, 0, 0, 6, []), (80, 58, 0, 0, 1004, [])]
def bX11_setSentence_4 : List In := [(80, 4, 0, 0, 6, []), (82, 6, 0, 1, 0, []), (83, 39, 66, 0, 11, [1895957441, 177, 5183]), (86, 4, 0, 0, 5, []), (88, 45, 0, 0, 0, []), (89, 56, 3, 0, 9, []), (92, 4, 0, 0, 6, []), (94, 6, 0, 1, 0, []), (95, 39, 66, 0, 11, [1895957441, 177, 5183]), (98, 4, 0, 0, 5, []), (100, 45, 0, 0, 0, []), (101, 1, 1, 0, 0, []), (102, 12, 0, 0, 0, []), (103, 56, 1, 0, 5, []), (106, 1, 1, 0, 0, []), (107, 57, 0, 0, 6, [])]
def bX11_setSentence_5 : List In := [(110, 1, 0, 0, 0, []), (111, 58, 0, 0, 6, [])]
def bX11_setSentence_6 : List In := [(111, 7, 0, 0, 7, []), (113, 6, 0, 1, 0, []), (114, 39, 68, 0, 11, [1929520513, 183, 5185]), (117, 1, 10, 1, 0, []), (119, 4, 0, 0, 5, []), (121, 13, 0, 0, 0, []), (122, 4, 0, 0, 6, []), (124, 11, 0, 0, 0, []), (125, 6, 0, 1, 0, []), (126, 4, 0, 0, 7, []), (128, 55, 0, 0, 7, []), (131, 1, 1, 0, 0, []), (132, 6, 0, 1, 0, []), (133, 39, 27, 0, 11, [1375863265, 84, 5144]), (136, 4, 0, 1, 2, []), (137, 45, 0, 0, 0, []), (138, 11, 0, 0, 0, []), (139, 57, 0, 0, 8, [])]
def bX11_setSentence_7 : List In := [(142, 1, 1, 0, 0, []), (143, 58, 0, 0, 8, [])]
def bX11_setSentence_8 : List In := [(143, 4, 0, 0, 4, []), (145, 75, 8003, 446, 3, [45, 11]), (148, 50, 0, 0, 0, []), (149, 10, 1, 0, 6, []), (152, 57, 0, 0, 1004, [])]
def bX11_setSentence_9 : List In := [(155, 6, 0, 1, 0, []), (156, 39, 64, 0, 11, [1862403009, 171, 5181]), (159, 4, 0, 0, 5, []), (161, 6, 0, 1, 0, []), (162, 39, 68, 0, 11, [1929520513, 183, 5185]), (165, 1, 10, 1, 0, []), (167, 4, 0, 0, 5, []), (169, 13, 0, 0, 0, []), (170, 45, 0, 0, 0, []), (171, 50, 0, 0, 0, []), (172, 6, 0, 1, 0, []), (173, 39, 65, 0, 11, [1879180225, 174, 5182]), (176, 4, 0, 0, 5, []), (178, 6, 0, 1, 0, []), (179, 39, 68, 0, 11, [1929520513, 183, 5185]), (182, 1, 10, 1, 0, []), (184, 4, 0, 0, 5, []), (186, 13, 0, 0, 0, []), (187, 6, 0, 1, 0, []), (188, 39, 66, 0, 11, [1895957441, 177, 5183]), (191, 4, 0, 0, 5, []), (193, 45, 0, 0, 0, []), (194, 11, 0, 0, 0, []), (195, 1, 1, 0, 0, []), (196, 12, 0, 0, 0, []), (197, 45, 0, 0, 0, []), (198, 50, 0, 0, 0, []), (199, 64, 0, 0, 0, [])]
def BX11_setSentence : List (List In) := [bX11_setSentence_0, bX11_setSentence_1, bX11_setSentence_2, bX11_setSentence_3, bX11_setSentence_4, bX11_setSentence_5, bX11_setSentence_6, bX11_setSentence_7, bX11_setSentence_8, bX11_setSentence_9]
set_option maxRecDepth 100000 in
theorem mkX11_setSentence : MkB 175 BX11_setSentence := MkB_of (by decide +kernel)
theorem lX11_setSentence : (sgD 175).2.2.1 = 8 := rfl
theorem eX11_setSentence_0 : BX11_setSentence.getD 0 [] = bX11_setSentence_0 := rfl
theorem eX11_setSentence_1 : BX11_setSentence.getD 1 [] = bX11_setSentence_1 := rfl
theorem eX11_setSentence_2 : BX11_setSentence.getD 2 [] = bX11_setSentence_2 := rfl
theorem eX11_setSentence_3 : BX11_setSentence.getD 3 [] = bX11_setSentence_3 := rfl
theorem eX11_setSentence_4 : BX11_setSentence.getD 4 [] = bX11_setSentence_4 := rfl
theorem eX11_setSentence_5 : BX11_setSentence.getD 5 [] = bX11_setSentence_5 := rfl
theorem eX11_setSentence_6 : BX11_setSentence.getD 6 [] = bX11_setSentence_6 := rfl
theorem eX11_setSentence_7 : BX11_setSentence.getD 7 [] = bX11_setSentence_7 := rfl
theorem eX11_setSentence_8 : BX11_setSentence.getD 8 [] = bX11_setSentence_8 := rfl
theorem eX11_setSentence_9 : BX11_setSentence.getD 9 [] = bX11_setSentence_9 := rfl
def bX11_unmet_0 : List In := [(0, 1, 0, 0, 0, []), (1, 7, 0, 1, 1, []), (2, 1, 0, 0, 0, []), (3, 7, 0, 1, 2, []), (4, 58, 0, 0, 1001, [])]
def bX11_unmet_1 : List In := [(4, 4, 0, 1, 2, []), (5, 6, 0, 1, 0, []), (6, 37, 38, 0, 11, [349, 5155]), (9, 56, 3, 0, 4, []), (12, 4, 0, 1, 1, []), (13, 6, 0, 1, 0, []), (14, 4, 0, 1, 2, []), (15, 75, 7129, 361, 2, [142, 11]), (18, 55, 0, 0, 2, []), (21, 1, 0, 0, 0, []), (22, 57, 0, 0, 3, [])]
def bX11_unmet_2 : List In := [(25, 1, 1, 0, 0, []), (26, 4, 0, 1, 2, []), (27, 20, 0, 0, 0, []), (28, 58, 0, 0, 3, [])]
def bX11_unmet_3 : List In := [(28, 18, 0, 0, 0, []), (29, 7, 0, 1, 1, []), (30, 10, 1, 0, 2, []), (33, 57, 0, 0, 1001, [])]
def bX11_unmet_4 : List In := [(36, 4, 0, 1, 1, []), (37, 60, 0, 0, 0, [])]
def BX11_unmet : List (List In) := [bX11_unmet_0, bX11_unmet_1, bX11_unmet_2, bX11_unmet_3, bX11_unmet_4]
set_option maxRecDepth 100000 in
theorem mkX11_unmet : MkB 176 BX11_unmet := MkB_of (by decide +kernel)
theorem lX11_unmet : (sgD 176).2.2.1 = 3 := rfl
theorem eX11_unmet_0 : BX11_unmet.getD 0 [] = bX11_unmet_0 := rfl
theorem eX11_unmet_1 : BX11_unmet.getD 1 [] = bX11_unmet_1 := rfl
theorem eX11_unmet_2 : BX11_unmet.getD 2 [] = bX11_unmet_2 := rfl
theorem eX11_unmet_3 : BX11_unmet.getD 3 [] = bX11_unmet_3 := rfl
theorem eX11_unmet_4 : BX11_unmet.getD 4 [] = bX11_unmet_4 := rfl
def bX11_work_0 : List In := [(0, 6, 0, 1, 0, []), (1, 79, 6147, 246, 1, [107, 11]), (4, 6, 0, 1, 0, []), (5, 79, 6155, 249, 1, [27, 11]), (8, 1, 0, 0, 0, []), (9, 7, 0, 0, 4, []), (11, 58, 0, 0, 1001, [])]
def bX11_work_1 : List In := [(11, 4, 0, 0, 4, []), (13, 6, 0, 1, 0, []), (14, 37, 10, 0, 11, [214, 5127]), (17, 56, 3, 0, 4, []), (20, 6, 0, 1, 0, []), (21, 39, 17, 0, 11, [1208091105, 53, 5134]), (24, 4, 0, 0, 4, []), (26, 45, 0, 0, 0, []), (27, 7, 0, 0, 5, []), (29, 4, 0, 0, 5, []), (31, 4, 0, 1, 3, []), (32, 56, 1, 0, 2, []), (35, 64, 0, 0, 0, [])]
def bX11_work_2 : List In := [(36, 5, 0, 1, 1, []), (37, 4, 0, 0, 5, []), (39, 65, 6159, 252, 2, [35, 0]), (42, 55, 0, 0, 3, []), (45, 6, 0, 1, 0, []), (46, 39, 29, 0, 11, [1409417697, 90, 5146]), (49, 4, 0, 0, 5, []), (51, 6, 0, 1, 0, []), (52, 4, 0, 0, 5, []), (54, 75, 6162, 256, 2, [138, 11]), (57, 50, 0, 0, 0, []), (58, 58, 0, 0, 3, [])]
def bX11_work_3 : List In := [(58, 10, 1, 0, 4, []), (61, 57, 0, 0, 1001, [])]
def bX11_work_4 : List In := [(64, 64, 0, 0, 0, [])]
def BX11_work : List (List In) := [bX11_work_0, bX11_work_1, bX11_work_2, bX11_work_3, bX11_work_4]
set_option maxRecDepth 100000 in
theorem mkX11_work : MkB 177 BX11_work := MkB_of (by decide +kernel)
theorem lX11_work : (sgD 177).2.2.1 = 6 := rfl
theorem eX11_work_0 : BX11_work.getD 0 [] = bX11_work_0 := rfl
theorem eX11_work_1 : BX11_work.getD 1 [] = bX11_work_1 := rfl
theorem eX11_work_2 : BX11_work.getD 2 [] = bX11_work_2 := rfl
theorem eX11_work_3 : BX11_work.getD 3 [] = bX11_work_3 := rfl
theorem eX11_work_4 : BX11_work.getD 4 [] = bX11_work_4 := rfl
def bX11_at_0 : List In := [(0, 6, 0, 1, 0, []), (1, 4, 0, 1, 1, []), (2, 75, 7027, 306, 2, [143, 11]), (5, 55, 0, 0, 1, []), (8, 6, 0, 1, 0, []), (9, 4, 0, 1, 2, []), (10, 75, 6197, 267, 2, [99, 11]), (13, 55, 1, 0, 2, []), (16, 58, 0, 0, 1, [])]
def bX11_at_1 : List In := [(16, 1, -101, 1, 0, []), (18, 60, 0, 0, 0, [])]
def bX11_at_2 : List In := [(19, 6, 0, 1, 0, []), (20, 6, 0, 1, 0, []), (21, 4, 0, 1, 1, []), (22, 77, 7032, 309, 2, [46, 11]), (25, 1, -1, 0, 0, []), (26, 79, 6143, 277, 3, [177, 11]), (29, 6, 0, 1, 0, []), (30, 39, 18, 0, 11, [1224868322, 56, 5135]), (33, 4, 0, 1, 2, []), (34, 46, 0, 0, 0, []), (35, 55, 0, 0, 3, []), (38, 4, 0, 1, 3, []), (39, 32, 0, 0, 0, []), (40, 2, 0, 0, 0, []), (41, 6, 0, 1, 0, []), (42, 39, 24, 0, 11, [1325531617, 75, 5141]), (45, 4, 0, 1, 2, []), (46, 45, 0, 0, 0, []), (47, 1, 1, 0, 0, []), (48, 12, 0, 0, 0, []), (49, 32, 0, 0, 0, []), (50, 65, 6133, 200, 3, [31, 0]), (53, 55, 1, 0, 4, []), (56, 58, 0, 0, 3, [])]
def bX11_at_3 : List In := [(56, 1, -101, 1, 0, []), (58, 60, 0, 0, 0, [])]
def bX11_at_4 : List In := [(59, 4, 0, 0, 4, []), (61, 55, 1, 0, 5, []), (64, 6, 0, 1, 0, []), (65, 39, 25, 0, 11, [1342312193, 78, 5142]), (68, 1, 8, 1, 0, []), (70, 4, 0, 1, 2, []), (71, 13, 0, 0, 0, []), (72, 4, 0, 1, 3, []), (73, 11, 0, 0, 0, []), (74, 45, 0, 0, 0, []), (75, 57, 0, 0, 7, [])]
def bX11_at_5 : List In := [(78, 4, 0, 0, 4, []), (80, 1, 1, 0, 0, []), (81, 56, 1, 0, 6, []), (84, 6, 0, 1, 0, []), (85, 39, 26, 0, 11, [1359089409, 81, 5143]), (88, 1, 8, 1, 0, []), (90, 4, 0, 1, 2, []), (91, 13, 0, 0, 0, []), (92, 4, 0, 1, 3, []), (93, 11, 0, 0, 0, []), (94, 45, 0, 0, 0, []), (95, 57, 0, 0, 7, [])]
def bX11_at_6 : List In := [(98, 1, -102, 1, 0, []), (100, 58, 0, 0, 7, [])]
def bX11_at_7 : List In := [(100, 60, 0, 0, 0, [])]
def BX11_at : List (List In) := [bX11_at_0, bX11_at_1, bX11_at_2, bX11_at_3, bX11_at_4, bX11_at_5, bX11_at_6, bX11_at_7]
set_option maxRecDepth 100000 in
theorem mkX11_at : MkB 187 BX11_at := MkB_of (by decide +kernel)
theorem lX11_at : (sgD 187).2.2.1 = 5 := rfl
theorem eX11_at_0 : BX11_at.getD 0 [] = bX11_at_0 := rfl
theorem eX11_at_1 : BX11_at.getD 1 [] = bX11_at_1 := rfl
theorem eX11_at_2 : BX11_at.getD 2 [] = bX11_at_2 := rfl
theorem eX11_at_3 : BX11_at.getD 3 [] = bX11_at_3 := rfl
theorem eX11_at_4 : BX11_at.getD 4 [] = bX11_at_4 := rfl
theorem eX11_at_5 : BX11_at.getD 5 [] = bX11_at_5 := rfl
theorem eX11_at_6 : BX11_at.getD 6 [] = bX11_at_6 := rfl
theorem eX11_at_7 : BX11_at.getD 7 [] = bX11_at_7 := rfl
def bX11_back_0 : List In := [(0, 4, 0, 1, 1, []), (1, 65, 6129, 204, 1, [98, 0]), (4, 55, 0, 0, 1, []), (7, 4, 0, 1, 2, []), (8, 32, 0, 0, 0, []), (9, 2, 0, 0, 0, []), (10, 6, 0, 1, 0, []), (11, 37, 10, 0, 11, [214, 5127]), (14, 1, 1, 0, 0, []), (15, 12, 0, 0, 0, []), (16, 32, 0, 0, 0, []), (17, 65, 6133, 200, 3, [31, 0]), (20, 55, 0, 0, 1, []), (23, 6, 0, 1, 0, []), (24, 39, 11, 0, 11, [1140981811, 40, 5128]), (27, 4, 0, 1, 1, []), (28, 47, 0, 0, 0, []), (29, 4, 0, 1, 2, []), (30, 65, 6159, 252, 2, [35, 0]), (33, 55, 1, 0, 2, []), (36, 58, 0, 0, 1, [])]
def bX11_back_1 : List In := [(36, 1, -1, 0, 0, []), (37, 60, 0, 0, 0, [])]
def bX11_back_2 : List In := [(38, 6, 0, 1, 0, []), (39, 37, 10, 0, 11, [214, 5127]), (42, 1, 60, 1, 0, []), (44, 56, 1, 0, 3, []), (47, 1, -4, 1, 0, []), (49, 60, 0, 0, 0, [])]
def bX11_back_3 : List In := [(50, 6, 0, 1, 0, []), (51, 6, 0, 1, 0, []), (52, 39, 11, 0, 11, [1140981811, 40, 5128]), (55, 4, 0, 1, 1, []), (56, 47, 0, 0, 0, []), (57, 1, -1, 0, 0, []), (58, 79, 6143, 277, 3, [177, 11]), (61, 6, 0, 1, 0, []), (62, 6, 0, 1, 0, []), (63, 39, 11, 0, 11, [1140981811, 40, 5128]), (66, 4, 0, 1, 1, []), (67, 47, 0, 0, 0, []), (68, 4, 0, 1, 2, []), (69, 75, 6234, 297, 3, [95, 11]), (72, 55, 1, 0, 4, []), (75, 1, -5, 1, 0, []), (77, 60, 0, 0, 0, [])]
def bX11_back_4 : List In := [(78, 6, 0, 1, 0, []), (79, 39, 3, 0, 11, [1023541729, 19, 5120]), (82, 4, 0, 1, 2, []), (83, 45, 0, 0, 0, []), (84, 7, 0, 1, 3, []), (85, 6, 0, 1, 0, []), (86, 6, 0, 1, 0, []), (87, 39, 11, 0, 11, [1140981811, 40, 5128]), (90, 4, 0, 1, 1, []), (91, 47, 0, 0, 0, []), (92, 4, 0, 1, 2, []), (93, 79, 6143, 277, 3, [177, 11]), (96, 6, 0, 1, 0, []), (97, 39, 0, 0, 11, [973210081, 7, 5117]), (100, 4, 0, 1, 2, []), (101, 45, 0, 0, 0, []), (102, 59, 0, 5, 10, [5, 6, 7, 10, 8, 9])]
def bX11_back_5 : List In := [(140, 6, 0, 1, 0, []), (141, 4, 0, 1, 1, []), (142, 1, 1, 0, 0, []), (143, 4, 0, 1, 3, []), (144, 1, -6, 1, 0, []), (146, 1, -6, 1, 0, []), (148, 75, 6201, 284, 6, [102, 11]), (151, 60, 0, 0, 0, [])]
def bX11_back_6 : List In := [(152, 6, 0, 1, 0, []), (153, 4, 0, 1, 1, []), (154, 1, 6, 1, 0, []), (156, 4, 0, 1, 3, []), (157, 1, -6, 1, 0, []), (159, 1, -6, 1, 0, []), (161, 75, 6201, 284, 6, [102, 11]), (164, 60, 0, 0, 0, [])]
def bX11_back_7 : List In := [(165, 6, 0, 1, 0, []), (166, 4, 0, 1, 1, []), (167, 1, 2, 0, 0, []), (168, 4, 0, 1, 3, []), (169, 6, 0, 1, 0, []), (170, 39, 20, 0, 11, [1258422753, 63, 5137]), (173, 4, 0, 1, 3, []), (174, 45, 0, 0, 0, []), (175, 6, 0, 1, 0, []), (176, 39, 23, 0, 11, [1308754401, 72, 5140]), (179, 4, 0, 1, 3, []), (180, 45, 0, 0, 0, []), (181, 75, 6201, 284, 6, [102, 11]), (184, 60, 0, 0, 0, [])]
def bX11_back_8 : List In := [(185, 6, 0, 1, 0, []), (186, 4, 0, 1, 1, []), (187, 1, 4, 0, 0, []), (188, 4, 0, 1, 3, []), (189, 6, 0, 1, 0, []), (190, 39, 27, 0, 11, [1375863265, 84, 5144]), (193, 4, 0, 1, 3, []), (194, 45, 0, 0, 0, []), (195, 1, -6, 1, 0, []), (197, 75, 6201, 284, 6, [102, 11]), (200, 60, 0, 0, 0, [])]
def bX11_back_9 : List In := [(201, 6, 0, 1, 0, []), (202, 4, 0, 1, 1, []), (203, 1, 5, 0, 0, []), (204, 4, 0, 1, 3, []), (205, 6, 0, 1, 0, []), (206, 39, 28, 0, 11, [1392640481, 87, 5145]), (209, 4, 0, 1, 3, []), (210, 45, 0, 0, 0, []), (211, 1, -6, 1, 0, []), (213, 75, 6201, 284, 6, [102, 11]), (216, 60, 0, 0, 0, [])]
def bX11_back_10 : List In := [(217, 6, 0, 1, 0, []), (218, 4, 0, 1, 1, []), (219, 4, 0, 1, 3, []), (220, 75, 7002, 300, 3, [148, 11]), (223, 60, 0, 0, 0, [])]
def BX11_back : List (List In) := [bX11_back_0, bX11_back_1, bX11_back_2, bX11_back_3, bX11_back_4, bX11_back_5, bX11_back_6, bX11_back_7, bX11_back_8, bX11_back_9, bX11_back_10]
set_option maxRecDepth 100000 in
theorem mkX11_back : MkB 188 BX11_back := MkB_of (by decide +kernel)
theorem lX11_back : (sgD 188).2.2.1 = 4 := rfl
theorem eX11_back_0 : BX11_back.getD 0 [] = bX11_back_0 := rfl
theorem eX11_back_1 : BX11_back.getD 1 [] = bX11_back_1 := rfl
theorem eX11_back_2 : BX11_back.getD 2 [] = bX11_back_2 := rfl
theorem eX11_back_3 : BX11_back.getD 3 [] = bX11_back_3 := rfl
theorem eX11_back_4 : BX11_back.getD 4 [] = bX11_back_4 := rfl
theorem eX11_back_5 : BX11_back.getD 5 [] = bX11_back_5 := rfl
theorem eX11_back_6 : BX11_back.getD 6 [] = bX11_back_6 := rfl
theorem eX11_back_7 : BX11_back.getD 7 [] = bX11_back_7 := rfl
theorem eX11_back_8 : BX11_back.getD 8 [] = bX11_back_8 := rfl
theorem eX11_back_9 : BX11_back.getD 9 [] = bX11_back_9 := rfl
theorem eX11_back_10 : BX11_back.getD 10 [] = bX11_back_10 := rfl
def bX11_came_0 : List In := [(0, 6, 0, 1, 0, []), (1, 4, 0, 1, 1, []), (2, 75, 7027, 306, 2, [143, 11]), (5, 55, 0, 0, 1, []), (8, 4, 0, 1, 2, []), (9, 32, 0, 0, 0, []), (10, 2, 0, 0, 0, []), (11, 6, 0, 1, 0, []), (12, 37, 10, 0, 11, [214, 5127]), (15, 1, 1, 0, 0, []), (16, 12, 0, 0, 0, []), (17, 32, 0, 0, 0, []), (18, 65, 6133, 200, 3, [31, 0]), (21, 55, 1, 0, 2, []), (24, 58, 0, 0, 1, [])]
def bX11_came_1 : List In := [(24, 1, -1, 0, 0, []), (25, 60, 0, 0, 0, [])]
def bX11_came_2 : List In := [(26, 6, 0, 1, 0, []), (27, 6, 0, 1, 0, []), (28, 4, 0, 1, 1, []), (29, 77, 7032, 309, 2, [46, 11]), (32, 1, -1, 0, 0, []), (33, 79, 6143, 277, 3, [177, 11]), (36, 6, 0, 1, 0, []), (37, 4, 0, 1, 1, []), (38, 77, 7032, 309, 2, [46, 11]), (41, 4, 0, 1, 2, []), (42, 65, 6159, 252, 2, [35, 0]), (45, 55, 0, 0, 3, []), (48, 6, 0, 1, 0, []), (49, 39, 29, 0, 11, [1409417697, 90, 5146]), (52, 4, 0, 1, 2, []), (53, 45, 0, 0, 0, []), (54, 57, 0, 0, 4, [])]
def bX11_came_3 : List In := [(57, 1, -6, 1, 0, []), (59, 58, 0, 0, 4, [])]
def bX11_came_4 : List In := [(59, 60, 0, 0, 0, [])]
def BX11_came : List (List In) := [bX11_came_0, bX11_came_1, bX11_came_2, bX11_came_3, bX11_came_4]
set_option maxRecDepth 100000 in
theorem mkX11_came : MkB 189 BX11_came := MkB_of (by decide +kernel)
theorem lX11_came : (sgD 189).2.2.1 = 3 := rfl
theorem eX11_came_0 : BX11_came.getD 0 [] = bX11_came_0 := rfl
theorem eX11_came_1 : BX11_came.getD 1 [] = bX11_came_1 := rfl
theorem eX11_came_2 : BX11_came.getD 2 [] = bX11_came_2 := rfl
theorem eX11_came_3 : BX11_came.getD 3 [] = bX11_came_3 := rfl
theorem eX11_came_4 : BX11_came.getD 4 [] = bX11_came_4 := rfl
def bX11_lead_0 : List In := [(0, 4, 0, 1, 1, []), (1, 65, 7137, 368, 1, [100, 0]), (4, 55, 0, 0, 1, []), (7, 6, 0, 1, 0, []), (8, 4, 0, 1, 2, []), (9, 75, 7027, 306, 2, [143, 11]), (12, 55, 0, 0, 1, []), (15, 4, 0, 0, 4, []), (17, 65, 6129, 204, 1, [98, 0]), (20, 55, 1, 0, 2, []), (23, 58, 0, 0, 1, [])]
def bX11_lead_1 : List In := [(23, 1, -1, 0, 0, []), (24, 60, 0, 0, 0, [])]
def bX11_lead_2 : List In := [(25, 6, 0, 1, 0, []), (26, 37, 50, 0, 11, [371, 5167]), (29, 1, 24, 1, 0, []), (31, 56, 1, 0, 3, []), (34, 1, -4, 1, 0, []), (36, 60, 0, 0, 0, [])]
def bX11_lead_3 : List In := [(37, 6, 0, 1, 0, []), (38, 6, 0, 1, 0, []), (39, 4, 0, 1, 2, []), (40, 77, 7032, 309, 2, [46, 11]), (43, 1, -1, 0, 0, []), (44, 79, 6143, 277, 3, [177, 11]), (47, 6, 0, 1, 0, []), (48, 4, 0, 1, 3, []), (49, 75, 6193, 270, 2, [145, 11]), (52, 55, 0, 0, 4, []), (55, 6, 0, 1, 0, []), (56, 39, 6, 0, 11, [1073873377, 28, 5123]), (59, 4, 0, 1, 3, []), (60, 45, 0, 0, 0, []), (61, 1, 1, 0, 0, []), (62, 56, 1, 0, 4, []), (65, 6, 0, 1, 0, []), (66, 39, 24, 0, 11, [1325531617, 75, 5141]), (69, 4, 0, 1, 3, []), (70, 45, 0, 0, 0, []), (71, 55, 0, 0, 4, []), (74, 6, 0, 1, 0, []), (75, 39, 15, 0, 11, [1191313457, 50, 5132]), (78, 4, 0, 0, 4, []), (80, 45, 0, 0, 0, []), (81, 55, 1, 0, 5, []), (84, 58, 0, 0, 4, [])]
def bX11_lead_4 : List In := [(84, 1, -5, 1, 0, []), (86, 60, 0, 0, 0, [])]
def bX11_lead_5 : List In := [(87, 6, 0, 1, 0, []), (88, 39, 46, 0, 11, [1610744001, 126, 5163]), (91, 6, 0, 1, 0, []), (92, 37, 50, 0, 11, [371, 5167]), (95, 4, 0, 1, 3, []), (96, 50, 0, 0, 0, []), (97, 6, 0, 1, 0, []), (98, 39, 47, 0, 11, [1627521217, 129, 5164]), (101, 6, 0, 1, 0, []), (102, 37, 50, 0, 11, [371, 5167]), (105, 4, 0, 1, 1, []), (106, 50, 0, 0, 0, []), (107, 6, 0, 1, 0, []), (108, 39, 48, 0, 11, [1644298625, 132, 5165]), (111, 1, 2, 0, 0, []), (112, 6, 0, 1, 0, []), (113, 37, 50, 0, 11, [371, 5167]), (116, 13, 0, 0, 0, []), (117, 6, 0, 1, 0, []), (118, 39, 24, 0, 11, [1325531617, 75, 5141]), (121, 4, 0, 1, 3, []), (122, 45, 0, 0, 0, []), (123, 50, 0, 0, 0, []), (124, 6, 0, 1, 0, []), (125, 39, 48, 0, 11, [1644298625, 132, 5165]), (128, 1, 2, 0, 0, []), (129, 6, 0, 1, 0, []), (130, 37, 50, 0, 11, [371, 5167]), (133, 13, 0, 0, 0, []), (134, 1, 1, 0, 0, []), (135, 11, 0, 0, 0, []), (136, 6, 0, 1, 0, []), (137, 39, 15, 0, 11, [1191313457, 50, 5132]), (140, 4, 0, 0, 4, []), (142, 45, 0, 0, 0, []), (143, 50, 0, 0, 0, []), (144, 1, 0, 0, 0, []), (145, 7, 0, 0, 5, []), (147, 58, 0, 0, 1006, [])]
def bX11_lead_6 : List In := [(147, 4, 0, 0, 5, []), (149, 1, 8, 1, 0, []), (151, 56, 3, 0, 7, []), (154, 6, 0, 1, 0, []), (155, 39, 49, 0, 11, [1661078529, 135, 5166]), (158, 1, 16, 1, 0, []), (160, 6, 0, 1, 0, []), (161, 37, 50, 0, 11, [371, 5167]), (164, 13, 0, 0, 0, []), (165, 4, 0, 0, 5, []), (167, 11, 0, 0, 0, []), (168, 6, 0, 1, 0, []), (169, 39, 25, 0, 11, [1342312193, 78, 5142]), (172, 1, 8, 1, 0, []), (174, 4, 0, 1, 3, []), (175, 13, 0, 0, 0, []), (176, 4, 0, 0, 5, []), (178, 11, 0, 0, 0, []), (179, 45, 0, 0, 0, []), (180, 50, 0, 0, 0, []), (181, 6, 0, 1, 0, []), (182, 39, 49, 0, 11, [1661078529, 135, 5166]), (185, 1, 16, 1, 0, []), (187, 6, 0, 1, 0, []), (188, 37, 50, 0, 11, [371, 5167]), (191, 13, 0, 0, 0, []), (192, 1, 8, 1, 0, []), (194, 11, 0, 0, 0, []), (195, 4, 0, 0, 5, []), (197, 11, 0, 0, 0, []), (198, 6, 0, 1, 0, []), (199, 39, 14, 0, 11, [1174536577, 47, 5131]), (202, 1, 8, 1, 0, []), (204, 4, 0, 0, 4, []), (206, 13, 0, 0, 0, []), (207, 4, 0, 0, 5, []), (209, 11, 0, 0, 0, []), (210, 45, 0, 0, 0, []), (211, 50, 0, 0, 0, []), (212, 10, 1, 0, 5, []), (215, 57, 0, 0, 1006, [])]
def bX11_lead_7 : List In := [(218, 6, 0, 1, 0, []), (219, 39, 15, 0, 11, [1191313457, 50, 5132]), (222, 4, 0, 0, 4, []), (224, 1, 0, 0, 0, []), (225, 50, 0, 0, 0, []), (226, 6, 0, 1, 0, []), (227, 35, 0, 0, 0, []), (228, 37, 50, 0, 11, [371, 5167]), (231, 1, 1, 0, 0, []), (232, 11, 0, 0, 0, []), (233, 42, 50, 0, 11, [371, 5167]), (236, 6, 0, 1, 0, []), (237, 37, 50, 0, 11, [371, 5167]), (240, 1, 1, 0, 0, []), (241, 12, 0, 0, 0, []), (242, 60, 0, 0, 0, [])]
def BX11_lead : List (List In) := [bX11_lead_0, bX11_lead_1, bX11_lead_2, bX11_lead_3, bX11_lead_4, bX11_lead_5, bX11_lead_6, bX11_lead_7]
set_option maxRecDepth 100000 in
theorem mkX11_lead : MkB 190 BX11_lead := MkB_of (by decide +kernel)
theorem lX11_lead : (sgD 190).2.2.1 = 6 := rfl
theorem eX11_lead_0 : BX11_lead.getD 0 [] = bX11_lead_0 := rfl
theorem eX11_lead_1 : BX11_lead.getD 1 [] = bX11_lead_1 := rfl
theorem eX11_lead_2 : BX11_lead.getD 2 [] = bX11_lead_2 := rfl
theorem eX11_lead_3 : BX11_lead.getD 3 [] = bX11_lead_3 := rfl
theorem eX11_lead_4 : BX11_lead.getD 4 [] = bX11_lead_4 := rfl
theorem eX11_lead_5 : BX11_lead.getD 5 [] = bX11_lead_5 := rfl
theorem eX11_lead_6 : BX11_lead.getD 6 [] = bX11_lead_6 := rfl
theorem eX11_lead_7 : BX11_lead.getD 7 [] = bX11_lead_7 := rfl
def bX11_offer_0 : List In := [(0, 4, 0, 1, 1, []), (1, 65, 7137, 368, 1, [100, 0]), (4, 55, 0, 0, 1, []), (7, 6, 0, 1, 0, []), (8, 4, 0, 1, 2, []), (9, 75, 7027, 306, 2, [143, 11]), (12, 55, 1, 0, 2, []), (15, 58, 0, 0, 1, [])]
def bX11_offer_1 : List In := [(15, 1, -1, 0, 0, []), (16, 60, 0, 0, 0, [])]
def bX11_offer_2 : List In := [(17, 6, 0, 1, 0, []), (18, 6, 0, 1, 0, []), (19, 4, 0, 1, 2, []), (20, 77, 7032, 309, 2, [46, 11]), (23, 1, -1, 0, 0, []), (24, 79, 6143, 277, 3, [177, 11]), (27, 6, 0, 1, 0, []), (28, 4, 0, 1, 3, []), (29, 75, 6193, 270, 2, [145, 11]), (32, 55, 0, 0, 3, []), (35, 6, 0, 1, 0, []), (36, 39, 6, 0, 11, [1073873377, 28, 5123]), (39, 4, 0, 1, 3, []), (40, 45, 0, 0, 0, []), (41, 1, 1, 0, 0, []), (42, 56, 0, 0, 4, []), (45, 58, 0, 0, 3, [])]
def bX11_offer_3 : List In := [(45, 1, -1, 0, 0, []), (46, 60, 0, 0, 0, [])]
def bX11_offer_4 : List In := [(47, 4, 0, 0, 4, []), (49, 32, 0, 0, 0, []), (50, 2, 0, 0, 0, []), (51, 2, 3, 1, 0, [292, 6225]), (54, 65, 6133, 200, 3, [31, 0]), (57, 55, 1, 0, 5, []), (60, 1, -2, 1, 0, []), (62, 60, 0, 0, 0, [])]
def bX11_offer_5 : List In := [(63, 1, -1, 0, 0, []), (64, 7, 0, 0, 5, []), (66, 1, 0, 0, 0, []), (67, 7, 0, 0, 6, []), (69, 1, 0, 0, 0, []), (70, 7, 0, 0, 7, []), (72, 58, 0, 0, 1006, [])]
def bX11_offer_6 : List In := [(72, 4, 0, 0, 7, []), (74, 6, 0, 1, 0, []), (75, 37, 50, 0, 11, [371, 5167]), (78, 56, 3, 0, 9, []), (81, 6, 0, 1, 0, []), (82, 39, 47, 0, 11, [1627521217, 129, 5164]), (85, 4, 0, 0, 7, []), (87, 45, 0, 0, 0, []), (88, 4, 0, 1, 1, []), (89, 56, 1, 0, 8, []), (92, 6, 0, 1, 0, []), (93, 4, 0, 0, 7, []), (95, 4, 0, 1, 3, []), (96, 75, 7160, 386, 3, [90, 11]), (99, 7, 0, 0, 8, []), (101, 4, 0, 0, 5, []), (103, 55, 2, 0, 7, []), (106, 4, 0, 0, 8, []), (108, 4, 0, 0, 6, []), (110, 56, 3, 0, 8, []), (113, 58, 0, 0, 7, [])]
def bX11_offer_7 : List In := [(113, 4, 0, 0, 7, []), (115, 7, 0, 0, 5, []), (117, 4, 0, 0, 8, []), (119, 7, 0, 0, 6, []), (121, 58, 0, 0, 8, [])]
def bX11_offer_8 : List In := [(121, 10, 1, 0, 7, []), (124, 57, 0, 0, 1006, [])]
def bX11_offer_9 : List In := [(127, 4, 0, 0, 5, []), (129, 55, 3, 0, 10, []), (132, 1, -6, 1, 0, []), (134, 60, 0, 0, 0, [])]
def bX11_offer_10 : List In := [(135, 4, 0, 0, 4, []), (137, 55, 1, 0, 11, []), (140, 4, 0, 0, 5, []), (142, 57, 0, 0, 14, [])]
def bX11_offer_11 : List In := [(145, 4, 0, 0, 4, []), (147, 1, 1, 0, 0, []), (148, 56, 1, 0, 12, []), (151, 4, 0, 0, 6, []), (153, 57, 0, 0, 14, [])]
def bX11_offer_12 : List In := [(156, 4, 0, 0, 4, []), (158, 1, 2, 0, 0, []), (159, 56, 1, 0, 13, []), (162, 6, 0, 1, 0, []), (163, 39, 46, 0, 11, [1610744001, 126, 5163]), (166, 4, 0, 0, 5, []), (168, 45, 0, 0, 0, []), (169, 57, 0, 0, 14, [])]
def bX11_offer_13 : List In := [(172, 6, 0, 1, 0, []), (173, 39, 48, 0, 11, [1644298625, 132, 5165]), (176, 1, 2, 0, 0, []), (177, 4, 0, 0, 5, []), (179, 13, 0, 0, 0, []), (180, 1, 1, 0, 0, []), (181, 11, 0, 0, 0, []), (182, 45, 0, 0, 0, []), (183, 58, 0, 0, 14, [])]
def bX11_offer_14 : List In := [(183, 60, 0, 0, 0, [])]
def BX11_offer : List (List In) := [bX11_offer_0, bX11_offer_1, bX11_offer_2, bX11_offer_3, bX11_offer_4, bX11_offer_5, bX11_offer_6, bX11_offer_7, bX11_offer_8, bX11_offer_9, bX11_offer_10, bX11_offer_11, bX11_offer_12, bX11_offer_13, bX11_offer_14]
set_option maxRecDepth 100000 in
theorem mkX11_offer : MkB 191 BX11_offer := MkB_of (by decide +kernel)
theorem lX11_offer : (sgD 191).2.2.1 = 9 := rfl
theorem eX11_offer_0 : BX11_offer.getD 0 [] = bX11_offer_0 := rfl
theorem eX11_offer_1 : BX11_offer.getD 1 [] = bX11_offer_1 := rfl
theorem eX11_offer_2 : BX11_offer.getD 2 [] = bX11_offer_2 := rfl
theorem eX11_offer_3 : BX11_offer.getD 3 [] = bX11_offer_3 := rfl
theorem eX11_offer_4 : BX11_offer.getD 4 [] = bX11_offer_4 := rfl
theorem eX11_offer_5 : BX11_offer.getD 5 [] = bX11_offer_5 := rfl
theorem eX11_offer_6 : BX11_offer.getD 6 [] = bX11_offer_6 := rfl
theorem eX11_offer_7 : BX11_offer.getD 7 [] = bX11_offer_7 := rfl
theorem eX11_offer_8 : BX11_offer.getD 8 [] = bX11_offer_8 := rfl
theorem eX11_offer_9 : BX11_offer.getD 9 [] = bX11_offer_9 := rfl
theorem eX11_offer_10 : BX11_offer.getD 10 [] = bX11_offer_10 := rfl
theorem eX11_offer_11 : BX11_offer.getD 11 [] = bX11_offer_11 := rfl
theorem eX11_offer_12 : BX11_offer.getD 12 [] = bX11_offer_12 := rfl
theorem eX11_offer_13 : BX11_offer.getD 13 [] = bX11_offer_13 := rfl
theorem eX11_offer_14 : BX11_offer.getD 14 [] = bX11_offer_14 := rfl
def bX11_piece_0 : List In := [(0, 6, 0, 1, 0, []), (1, 4, 0, 1, 1, []), (2, 75, 7027, 306, 2, [143, 11]), (5, 55, 0, 0, 1, []), (8, 6, 0, 1, 0, []), (9, 4, 0, 1, 2, []), (10, 75, 6197, 267, 2, [99, 11]), (13, 55, 1, 0, 2, []), (16, 58, 0, 0, 1, [])]
def bX11_piece_1 : List In := [(16, 1, -101, 1, 0, []), (18, 60, 0, 0, 0, [])]
def bX11_piece_2 : List In := [(19, 4, 0, 1, 3, []), (20, 32, 0, 0, 0, []), (21, 2, 0, 0, 0, []), (22, 2, 9, 1, 0, [275, 6142]), (25, 65, 6133, 200, 3, [31, 0]), (28, 55, 1, 0, 3, []), (31, 1, -102, 1, 0, []), (33, 60, 0, 0, 0, [])]
def bX11_piece_3 : List In := [(34, 6, 0, 1, 0, []), (35, 6, 0, 1, 0, []), (36, 4, 0, 1, 1, []), (37, 77, 7032, 309, 2, [46, 11]), (40, 1, -1, 0, 0, []), (41, 79, 6143, 277, 3, [177, 11]), (44, 4, 0, 1, 3, []), (45, 55, 1, 0, 6, []), (48, 6, 0, 1, 0, []), (49, 39, 18, 0, 11, [1224868322, 56, 5135]), (52, 4, 0, 1, 2, []), (53, 46, 0, 0, 0, []), (54, 55, 0, 0, 4, []), (57, 1, 1, 0, 0, []), (58, 57, 0, 0, 5, [])]
def bX11_piece_4 : List In := [(61, 1, 0, 0, 0, []), (62, 58, 0, 0, 5, [])]
def bX11_piece_5 : List In := [(62, 60, 0, 0, 0, [])]
def bX11_piece_6 : List In := [(63, 6, 0, 1, 0, []), (64, 39, 18, 0, 11, [1224868322, 56, 5135]), (67, 4, 0, 1, 2, []), (68, 46, 0, 0, 0, []), (69, 55, 1, 0, 7, []), (72, 1, -103, 1, 0, []), (74, 60, 0, 0, 0, [])]
def bX11_piece_7 : List In := [(75, 4, 0, 1, 3, []), (76, 59, 1, 8, 20, [8, 11, 14, 15, 16, 17, 18, 19])]
def bX11_piece_8 : List In := [(124, 6, 0, 1, 0, []), (125, 39, 19, 0, 11, [1241645538, 60, 5136]), (128, 4, 0, 1, 2, []), (129, 46, 0, 0, 0, []), (130, 55, 0, 0, 9, []), (133, 1, 1, 0, 0, []), (134, 57, 0, 0, 10, [])]
def bX11_piece_9 : List In := [(137, 1, 0, 0, 0, []), (138, 58, 0, 0, 10, [])]
def bX11_piece_10 : List In := [(138, 60, 0, 0, 0, [])]
def bX11_piece_11 : List In := [(139, 6, 0, 1, 0, []), (140, 4, 0, 1, 2, []), (141, 75, 7052, 262, 2, [38, 11]), (144, 55, 0, 0, 12, []), (147, 1, 1, 0, 0, []), (148, 57, 0, 0, 13, [])]
def bX11_piece_12 : List In := [(151, 1, 0, 0, 0, []), (152, 58, 0, 0, 13, [])]
def bX11_piece_13 : List In := [(152, 60, 0, 0, 0, [])]
def bX11_piece_14 : List In := [(153, 6, 0, 1, 0, []), (154, 39, 20, 0, 11, [1258422753, 63, 5137]), (157, 4, 0, 1, 2, []), (158, 45, 0, 0, 0, []), (159, 60, 0, 0, 0, [])]
def bX11_piece_15 : List In := [(160, 6, 0, 1, 0, []), (161, 39, 23, 0, 11, [1308754401, 72, 5140]), (164, 4, 0, 1, 2, []), (165, 45, 0, 0, 0, []), (166, 60, 0, 0, 0, [])]
def bX11_piece_16 : List In := [(167, 6, 0, 1, 0, []), (168, 4, 0, 1, 2, []), (169, 75, 7060, 319, 2, [26, 11]), (172, 60, 0, 0, 0, [])]
def bX11_piece_17 : List In := [(173, 6, 0, 1, 0, []), (174, 39, 24, 0, 11, [1325531617, 75, 5141]), (177, 4, 0, 1, 2, []), (178, 45, 0, 0, 0, []), (179, 60, 0, 0, 0, [])]
def bX11_piece_18 : List In := [(180, 6, 0, 1, 0, []), (181, 39, 27, 0, 11, [1375863265, 84, 5144]), (184, 4, 0, 1, 2, []), (185, 45, 0, 0, 0, []), (186, 60, 0, 0, 0, [])]
def bX11_piece_19 : List In := [(187, 6, 0, 1, 0, []), (188, 39, 28, 0, 11, [1392640481, 87, 5145]), (191, 4, 0, 1, 2, []), (192, 45, 0, 0, 0, []), (193, 60, 0, 0, 0, [])]
def bX11_piece_20 : List In := [(194, 6, 0, 1, 0, []), (195, 4, 0, 1, 2, []), (196, 75, 7064, 322, 2, [28, 11]), (199, 60, 0, 0, 0, [])]
def BX11_piece : List (List In) := [bX11_piece_0, bX11_piece_1, bX11_piece_2, bX11_piece_3, bX11_piece_4, bX11_piece_5, bX11_piece_6, bX11_piece_7, bX11_piece_8, bX11_piece_9, bX11_piece_10, bX11_piece_11, bX11_piece_12, bX11_piece_13, bX11_piece_14, bX11_piece_15, bX11_piece_16, bX11_piece_17, bX11_piece_18, bX11_piece_19, bX11_piece_20]
set_option maxRecDepth 100000 in
theorem mkX11_piece : MkB 192 BX11_piece := MkB_of (by decide +kernel)
theorem lX11_piece : (sgD 192).2.2.1 = 4 := rfl
theorem eX11_piece_0 : BX11_piece.getD 0 [] = bX11_piece_0 := rfl
theorem eX11_piece_1 : BX11_piece.getD 1 [] = bX11_piece_1 := rfl
theorem eX11_piece_2 : BX11_piece.getD 2 [] = bX11_piece_2 := rfl
theorem eX11_piece_3 : BX11_piece.getD 3 [] = bX11_piece_3 := rfl
theorem eX11_piece_4 : BX11_piece.getD 4 [] = bX11_piece_4 := rfl
theorem eX11_piece_5 : BX11_piece.getD 5 [] = bX11_piece_5 := rfl
theorem eX11_piece_6 : BX11_piece.getD 6 [] = bX11_piece_6 := rfl
theorem eX11_piece_7 : BX11_piece.getD 7 [] = bX11_piece_7 := rfl
theorem eX11_piece_8 : BX11_piece.getD 8 [] = bX11_piece_8 := rfl
theorem eX11_piece_9 : BX11_piece.getD 9 [] = bX11_piece_9 := rfl
theorem eX11_piece_10 : BX11_piece.getD 10 [] = bX11_piece_10 := rfl
theorem eX11_piece_11 : BX11_piece.getD 11 [] = bX11_piece_11 := rfl
theorem eX11_piece_12 : BX11_piece.getD 12 [] = bX11_piece_12 := rfl
theorem eX11_piece_13 : BX11_piece.getD 13 [] = bX11_piece_13 := rfl
theorem eX11_piece_14 : BX11_piece.getD 14 [] = bX11_piece_14 := rfl
theorem eX11_piece_15 : BX11_piece.getD 15 [] = bX11_piece_15 := rfl
theorem eX11_piece_16 : BX11_piece.getD 16 [] = bX11_piece_16 := rfl
theorem eX11_piece_17 : BX11_piece.getD 17 [] = bX11_piece_17 := rfl
theorem eX11_piece_18 : BX11_piece.getD 18 [] = bX11_piece_18 := rfl
theorem eX11_piece_19 : BX11_piece.getD 19 [] = bX11_piece_19 := rfl
theorem eX11_piece_20 : BX11_piece.getD 20 [] = bX11_piece_20 := rfl
def bX11_put_0 : List In := [(0, 4, 0, 1, 1, []), (1, 65, 6129, 204, 1, [98, 0]), (4, 55, 1, 0, 1, []), (7, 1, -1, 0, 0, []), (8, 60, 0, 0, 0, [])]
def bX11_put_1 : List In := [(9, 4, 0, 1, 2, []), (10, 32, 0, 0, 0, []), (11, 2, 0, 0, 0, []), (12, 2, 2, 1, 0, [273, 6141]), (15, 65, 6133, 200, 3, [31, 0]), (18, 55, 0, 0, 2, []), (21, 4, 0, 1, 2, []), (22, 1, 2, 0, 0, []), (23, 56, 1, 0, 3, []), (26, 4, 0, 0, 5, []), (28, 32, 0, 0, 0, []), (29, 2, 1, 0, 1, []), (30, 2, 9, 1, 0, [275, 6142]), (33, 65, 6133, 200, 3, [31, 0]), (36, 55, 1, 0, 3, []), (39, 58, 0, 0, 2, [])]
def bX11_put_2 : List In := [(39, 1, -2, 1, 0, []), (41, 60, 0, 0, 0, [])]
def bX11_put_3 : List In := [(42, 6, 0, 1, 0, []), (43, 37, 10, 0, 11, [214, 5127]), (46, 1, 60, 1, 0, []), (48, 56, 1, 0, 4, []), (51, 1, -4, 1, 0, []), (53, 60, 0, 0, 0, [])]
def bX11_put_4 : List In := [(54, 6, 0, 1, 0, []), (55, 6, 0, 1, 0, []), (56, 39, 11, 0, 11, [1140981811, 40, 5128]), (59, 4, 0, 1, 1, []), (60, 47, 0, 0, 0, []), (61, 1, -1, 0, 0, []), (62, 79, 6143, 277, 3, [177, 11]), (65, 6, 0, 1, 0, []), (66, 4, 0, 1, 3, []), (67, 75, 6189, 281, 2, [173, 11]), (70, 55, 0, 0, 5, []), (73, 4, 0, 0, 4, []), (75, 1, -1, 0, 0, []), (76, 56, 0, 0, 6, []), (79, 6, 0, 1, 0, []), (80, 4, 0, 0, 4, []), (82, 75, 6193, 270, 2, [145, 11]), (85, 55, 1, 0, 6, []), (88, 58, 0, 0, 5, [])]
def bX11_put_5 : List In := [(88, 1, -5, 1, 0, []), (90, 60, 0, 0, 0, [])]
def bX11_put_6 : List In := [(91, 6, 0, 1, 0, []), (92, 4, 0, 1, 1, []), (93, 1, 0, 0, 0, []), (94, 6, 0, 1, 0, []), (95, 37, 10, 0, 11, [214, 5127]), (98, 4, 0, 1, 3, []), (99, 4, 0, 0, 4, []), (101, 75, 6201, 284, 6, [102, 11]), (104, 7, 0, 0, 6, []), (106, 6, 0, 1, 0, []), (107, 39, 6, 0, 11, [1073873377, 28, 5123]), (110, 4, 0, 0, 6, []), (112, 4, 0, 1, 2, []), (113, 50, 0, 0, 0, []), (114, 6, 0, 1, 0, []), (115, 39, 7, 0, 11, [1090650593, 31, 5124]), (118, 4, 0, 0, 6, []), (120, 4, 0, 1, 2, []), (121, 1, 2, 0, 0, []), (122, 56, 1, 0, 7, []), (125, 4, 0, 0, 5, []), (127, 57, 0, 0, 8, [])]
def bX11_put_7 : List In := [(130, 1, 0, 0, 0, []), (131, 58, 0, 0, 8, [])]
def bX11_put_8 : List In := [(131, 50, 0, 0, 0, []), (132, 4, 0, 0, 6, []), (134, 60, 0, 0, 0, [])]
def BX11_put : List (List In) := [bX11_put_0, bX11_put_1, bX11_put_2, bX11_put_3, bX11_put_4, bX11_put_5, bX11_put_6, bX11_put_7, bX11_put_8]
set_option maxRecDepth 100000 in
theorem mkX11_put : MkB 193 BX11_put := MkB_of (by decide +kernel)
theorem lX11_put : (sgD 193).2.2.1 = 7 := rfl
theorem eX11_put_0 : BX11_put.getD 0 [] = bX11_put_0 := rfl
theorem eX11_put_1 : BX11_put.getD 1 [] = bX11_put_1 := rfl
theorem eX11_put_2 : BX11_put.getD 2 [] = bX11_put_2 := rfl
theorem eX11_put_3 : BX11_put.getD 3 [] = bX11_put_3 := rfl
theorem eX11_put_4 : BX11_put.getD 4 [] = bX11_put_4 := rfl
theorem eX11_put_5 : BX11_put.getD 5 [] = bX11_put_5 := rfl
theorem eX11_put_6 : BX11_put.getD 6 [] = bX11_put_6 := rfl
theorem eX11_put_7 : BX11_put.getD 7 [] = bX11_put_7 := rfl
theorem eX11_put_8 : BX11_put.getD 8 [] = bX11_put_8 := rfl
def bX11_say_0 : List In := [(0, 6, 0, 1, 0, []), (1, 4, 0, 1, 1, []), (2, 75, 7027, 306, 2, [143, 11]), (5, 55, 0, 0, 1, []), (8, 4, 0, 1, 2, []), (9, 32, 0, 0, 0, []), (10, 2, 0, 0, 0, []), (11, 6, 0, 1, 0, []), (12, 37, 10, 0, 11, [214, 5127]), (15, 1, 1, 0, 0, []), (16, 12, 0, 0, 0, []), (17, 32, 0, 0, 0, []), (18, 65, 6133, 200, 3, [31, 0]), (21, 55, 1, 0, 2, []), (24, 58, 0, 0, 1, [])]
def bX11_say_1 : List In := [(24, 1, -1, 0, 0, []), (25, 60, 0, 0, 0, [])]
def bX11_say_2 : List In := [(26, 6, 0, 1, 0, []), (27, 6, 0, 1, 0, []), (28, 4, 0, 1, 1, []), (29, 77, 7032, 309, 2, [46, 11]), (32, 1, -1, 0, 0, []), (33, 79, 6143, 277, 3, [177, 11]), (36, 6, 0, 1, 0, []), (37, 6, 0, 1, 0, []), (38, 4, 0, 1, 1, []), (39, 77, 7032, 309, 2, [46, 11]), (42, 4, 0, 1, 2, []), (43, 75, 6234, 297, 3, [95, 11]), (46, 55, 0, 0, 3, []), (49, 1, 1, 0, 0, []), (50, 57, 0, 0, 4, [])]
def bX11_say_3 : List In := [(53, 1, 0, 0, 0, []), (54, 58, 0, 0, 4, [])]
def bX11_say_4 : List In := [(54, 60, 0, 0, 0, [])]
def BX11_say : List (List In) := [bX11_say_0, bX11_say_1, bX11_say_2, bX11_say_3, bX11_say_4]
set_option maxRecDepth 100000 in
theorem mkX11_say : MkB 194 BX11_say := MkB_of (by decide +kernel)
theorem lX11_say : (sgD 194).2.2.1 = 3 := rfl
theorem eX11_say_0 : BX11_say.getD 0 [] = bX11_say_0 := rfl
theorem eX11_say_1 : BX11_say.getD 1 [] = bX11_say_1 := rfl
theorem eX11_say_2 : BX11_say.getD 2 [] = bX11_say_2 := rfl
theorem eX11_say_3 : BX11_say.getD 3 [] = bX11_say_3 := rfl
theorem eX11_say_4 : BX11_say.getD 4 [] = bX11_say_4 := rfl
def bX11_setRound_0 : List In := [(0, 6, 0, 1, 0, []), (1, 1, 1, 0, 0, []), (2, 42, 80, 0, 11, [434, 5197]), (5, 6, 0, 1, 0, []), (6, 1, 0, 0, 0, []), (7, 42, 81, 0, 11, [428, 5198]), (10, 6, 0, 1, 0, []), (11, 1, 0, 0, 0, []), (12, 42, 73, 0, 11, [437, 5190]), (15, 6, 0, 1, 0, []), (16, 1, 0, 0, 0, []), (17, 42, 74, 0, 11, [422, 5191]), (20, 6, 0, 1, 0, []), (21, 1, 0, 0, 0, []), (22, 42, 75, 0, 11, [425, 5192]), (25, 6, 0, 1, 0, []), (26, 1, 0, 0, 0, []), (27, 42, 76, 0, 11, [431, 5193]), (30, 1, 0, 0, 0, []), (31, 7, 0, 0, 4, []), (33, 58, 0, 0, 1001, [])]
def bX11_setRound_1 : List In := [(33, 4, 0, 0, 4, []), (35, 6, 0, 1, 0, []), (36, 37, 33, 0, 11, [259, 5150]), (39, 56, 3, 0, 6, []), (42, 6, 0, 1, 0, []), (43, 39, 32, 0, 11, [1459749345, 99, 5149]), (46, 4, 0, 0, 4, []), (48, 45, 0, 0, 0, []), (49, 7, 0, 0, 5, []), (51, 1, 60, 1, 0, []), (53, 4, 0, 1, 1, []), (54, 13, 0, 0, 0, []), (55, 4, 0, 0, 5, []), (57, 11, 0, 0, 0, []), (58, 7, 0, 0, 6, []), (60, 6, 0, 1, 0, []), (61, 39, 6, 0, 11, [1073873377, 28, 5123]), (64, 4, 0, 0, 5, []), (66, 45, 0, 0, 0, []), (67, 1, 1, 0, 0, []), (68, 56, 1, 0, 2, []), (71, 6, 0, 1, 0, []), (72, 4, 0, 1, 1, []), (73, 4, 0, 0, 5, []), (75, 4, 0, 1, 2, []), (76, 4, 0, 1, 3, []), (77, 79, 7216, 449, 5, [175, 11]), (80, 57, 0, 0, 5, [])]
def bX11_setRound_2 : List In := [(83, 6, 0, 1, 0, []), (84, 39, 66, 0, 11, [1895957441, 177, 5183]), (87, 4, 0, 0, 6, []), (89, 6, 0, 1, 0, []), (90, 39, 6, 0, 11, [1073873377, 28, 5123]), (93, 4, 0, 0, 5, []), (95, 45, 0, 0, 0, []), (96, 55, 1, 0, 3, []), (99, 1, 1, 0, 0, []), (100, 57, 0, 0, 4, [])]
def bX11_setRound_3 : List In := [(103, 6, 0, 1, 0, []), (104, 39, 7, 0, 11, [1090650593, 31, 5124]), (107, 4, 0, 0, 5, []), (109, 45, 0, 0, 0, []), (110, 58, 0, 0, 4, [])]
def bX11_setRound_4 : List In := [(110, 50, 0, 0, 0, []), (111, 6, 0, 1, 0, []), (112, 39, 64, 0, 11, [1862403009, 171, 5181]), (115, 4, 0, 0, 6, []), (117, 6, 0, 1, 0, []), (118, 6, 0, 1, 0, []), (119, 39, 66, 0, 11, [1895957441, 177, 5183]), (122, 4, 0, 0, 6, []), (124, 45, 0, 0, 0, []), (125, 4, 0, 1, 3, []), (126, 75, 8003, 446, 3, [45, 11]), (129, 50, 0, 0, 0, []), (130, 6, 0, 1, 0, []), (131, 39, 65, 0, 11, [1879180225, 174, 5182]), (134, 4, 0, 0, 6, []), (136, 6, 0, 1, 0, []), (137, 39, 64, 0, 11, [1862403009, 171, 5181]), (140, 4, 0, 0, 6, []), (142, 45, 0, 0, 0, []), (143, 50, 0, 0, 0, []), (144, 58, 0, 0, 5, [])]
def bX11_setRound_5 : List In := [(144, 10, 1, 0, 4, []), (147, 57, 0, 0, 1001, [])]
def bX11_setRound_6 : List In := [(150, 64, 0, 0, 0, [])]
def BX11_setRound : List (List In) := [bX11_setRound_0, bX11_setRound_1, bX11_setRound_2, bX11_setRound_3, bX11_setRound_4, bX11_setRound_5, bX11_setRound_6]
set_option maxRecDepth 100000 in
theorem mkX11_setRound : MkB 195 BX11_setRound := MkB_of (by decide +kernel)
theorem lX11_setRound : (sgD 195).2.2.1 = 7 := rfl
theorem eX11_setRound_0 : BX11_setRound.getD 0 [] = bX11_setRound_0 := rfl
theorem eX11_setRound_1 : BX11_setRound.getD 1 [] = bX11_setRound_1 := rfl
theorem eX11_setRound_2 : BX11_setRound.getD 2 [] = bX11_setRound_2 := rfl
theorem eX11_setRound_3 : BX11_setRound.getD 3 [] = bX11_setRound_3 := rfl
theorem eX11_setRound_4 : BX11_setRound.getD 4 [] = bX11_setRound_4 := rfl
theorem eX11_setRound_5 : BX11_setRound.getD 5 [] = bX11_setRound_5 := rfl
theorem eX11_setRound_6 : BX11_setRound.getD 6 [] = bX11_setRound_6 := rfl
def bX11_settle_0 : List In := [(0, 4, 0, 1, 1, []), (1, 65, 6129, 204, 1, [98, 0]), (4, 55, 0, 0, 1, []), (7, 6, 0, 1, 0, []), (8, 4, 0, 0, 4, []), (10, 75, 7027, 306, 2, [143, 11]), (13, 55, 1, 0, 2, []), (16, 58, 0, 0, 1, [])]
def bX11_settle_1 : List In := [(16, 1, -1, 0, 0, []), (17, 60, 0, 0, 0, [])]
def bX11_settle_2 : List In := [(18, 4, 0, 1, 3, []), (19, 32, 0, 0, 0, []), (20, 2, 0, 0, 0, []), (21, 2, 4, 1, 0, [347, 7108]), (24, 65, 6133, 200, 3, [31, 0]), (27, 55, 1, 0, 3, []), (30, 1, -2, 1, 0, []), (32, 60, 0, 0, 0, [])]
def bX11_settle_3 : List In := [(33, 6, 0, 1, 0, []), (34, 37, 10, 0, 11, [214, 5127]), (37, 1, 60, 1, 0, []), (39, 56, 1, 0, 4, []), (42, 1, -4, 1, 0, []), (44, 60, 0, 0, 0, [])]
def bX11_settle_4 : List In := [(45, 6, 0, 1, 0, []), (46, 6, 0, 1, 0, []), (47, 39, 11, 0, 11, [1140981811, 40, 5128]), (50, 4, 0, 1, 1, []), (51, 47, 0, 0, 0, []), (52, 1, -1, 0, 0, []), (53, 79, 6143, 277, 3, [177, 11]), (56, 6, 0, 1, 0, []), (57, 4, 0, 1, 2, []), (58, 75, 6193, 270, 2, [145, 11]), (61, 55, 0, 0, 5, []), (64, 4, 0, 1, 3, []), (65, 32, 0, 0, 0, []), (66, 2, 1, 0, 1, []), (67, 2, 3, 1, 0, [292, 6225]), (70, 65, 6133, 200, 3, [31, 0]), (73, 55, 0, 0, 6, []), (76, 6, 0, 1, 0, []), (77, 39, 6, 0, 11, [1073873377, 28, 5123]), (80, 4, 0, 1, 2, []), (81, 45, 0, 0, 0, []), (82, 1, 1, 0, 0, []), (83, 56, 0, 0, 6, []), (86, 58, 0, 0, 5, [])]
def bX11_settle_5 : List In := [(86, 1, -5, 1, 0, []), (88, 60, 0, 0, 0, [])]
def bX11_settle_6 : List In := [(89, 6, 0, 1, 0, []), (90, 6, 0, 1, 0, []), (91, 4, 0, 0, 4, []), (93, 77, 7032, 309, 2, [46, 11]), (96, 1, -1, 0, 0, []), (97, 79, 6143, 277, 3, [177, 11]), (100, 6, 0, 1, 0, []), (101, 39, 18, 0, 11, [1224868322, 56, 5135]), (104, 4, 0, 1, 2, []), (105, 46, 0, 0, 0, []), (106, 55, 1, 0, 7, []), (109, 1, -5, 1, 0, []), (111, 60, 0, 0, 0, [])]
def bX11_settle_7 : List In := [(112, 6, 0, 1, 0, []), (113, 39, 20, 0, 11, [1258422753, 63, 5137]), (116, 4, 0, 1, 2, []), (117, 45, 0, 0, 0, []), (118, 7, 0, 0, 5, []), (120, 6, 0, 1, 0, []), (121, 39, 23, 0, 11, [1308754401, 72, 5140]), (124, 4, 0, 1, 2, []), (125, 45, 0, 0, 0, []), (126, 7, 0, 0, 6, []), (128, 4, 0, 1, 3, []), (129, 59, 0, 3, 15, [8, 12, 13, 14])]
def bX11_settle_8 : List In := [(160, 6, 0, 1, 0, []), (161, 6, 0, 1, 0, []), (162, 39, 11, 0, 11, [1140981811, 40, 5128]), (165, 4, 0, 1, 1, []), (166, 47, 0, 0, 0, []), (167, 1, -1, 0, 0, []), (168, 79, 6143, 277, 3, [177, 11]), (171, 6, 0, 1, 0, []), (172, 4, 0, 0, 5, []), (174, 75, 6166, 225, 2, [25, 11]), (177, 55, 0, 0, 9, []), (180, 4, 0, 0, 5, []), (182, 1, -1, 0, 0, []), (183, 56, 0, 0, 10, []), (186, 6, 0, 1, 0, []), (187, 4, 0, 0, 5, []), (189, 4, 0, 1, 2, []), (190, 75, 6177, 232, 3, [39, 11]), (193, 55, 0, 0, 10, []), (196, 58, 0, 0, 9, [])]
def bX11_settle_9 : List In := [(196, 1, -5, 1, 0, []), (198, 57, 0, 0, 11, [])]
def bX11_settle_10 : List In := [(201, 6, 0, 1, 0, []), (202, 4, 0, 1, 1, []), (203, 1, 2, 0, 0, []), (204, 4, 0, 1, 2, []), (205, 4, 0, 0, 5, []), (207, 4, 0, 0, 6, []), (209, 75, 6201, 284, 6, [102, 11]), (212, 58, 0, 0, 11, [])]
def bX11_settle_11 : List In := [(212, 60, 0, 0, 0, [])]
def bX11_settle_12 : List In := [(213, 6, 0, 1, 0, []), (214, 4, 0, 1, 1, []), (215, 4, 0, 1, 2, []), (216, 75, 7002, 300, 3, [148, 11]), (219, 60, 0, 0, 0, [])]
def bX11_settle_13 : List In := [(220, 6, 0, 1, 0, []), (221, 4, 0, 1, 1, []), (222, 1, 4, 0, 0, []), (223, 4, 0, 1, 2, []), (224, 6, 0, 1, 0, []), (225, 39, 27, 0, 11, [1375863265, 84, 5144]), (228, 4, 0, 1, 2, []), (229, 45, 0, 0, 0, []), (230, 1, -6, 1, 0, []), (232, 75, 6201, 284, 6, [102, 11]), (235, 60, 0, 0, 0, [])]
def bX11_settle_14 : List In := [(236, 6, 0, 1, 0, []), (237, 4, 0, 1, 1, []), (238, 1, 5, 0, 0, []), (239, 4, 0, 1, 2, []), (240, 6, 0, 1, 0, []), (241, 39, 28, 0, 11, [1392640481, 87, 5145]), (244, 4, 0, 1, 2, []), (245, 45, 0, 0, 0, []), (246, 1, -6, 1, 0, []), (248, 75, 6201, 284, 6, [102, 11]), (251, 60, 0, 0, 0, [])]
def bX11_settle_15 : List In := [(252, 6, 0, 1, 0, []), (253, 4, 0, 1, 1, []), (254, 6, 0, 1, 0, []), (255, 39, 19, 0, 11, [1241645538, 60, 5136]), (258, 4, 0, 1, 2, []), (259, 46, 0, 0, 0, []), (260, 55, 0, 0, 16, []), (263, 1, 1, 0, 0, []), (264, 57, 0, 0, 17, [])]
def bX11_settle_16 : List In := [(267, 1, 6, 1, 0, []), (269, 58, 0, 0, 17, [])]
def bX11_settle_17 : List In := [(269, 4, 0, 1, 2, []), (270, 1, -6, 1, 0, []), (272, 1, -6, 1, 0, []), (274, 75, 6201, 284, 6, [102, 11]), (277, 60, 0, 0, 0, [])]
def BX11_settle : List (List In) := [bX11_settle_0, bX11_settle_1, bX11_settle_2, bX11_settle_3, bX11_settle_4, bX11_settle_5, bX11_settle_6, bX11_settle_7, bX11_settle_8, bX11_settle_9, bX11_settle_10, bX11_settle_11, bX11_settle_12, bX11_settle_13, bX11_settle_14, bX11_settle_15, bX11_settle_16, bX11_settle_17]
set_option maxRecDepth 100000 in
theorem mkX11_settle : MkB 196 BX11_settle := MkB_of (by decide +kernel)
theorem lX11_settle : (sgD 196).2.2.1 = 7 := rfl
theorem eX11_settle_0 : BX11_settle.getD 0 [] = bX11_settle_0 := rfl
theorem eX11_settle_1 : BX11_settle.getD 1 [] = bX11_settle_1 := rfl
theorem eX11_settle_2 : BX11_settle.getD 2 [] = bX11_settle_2 := rfl
theorem eX11_settle_3 : BX11_settle.getD 3 [] = bX11_settle_3 := rfl
theorem eX11_settle_4 : BX11_settle.getD 4 [] = bX11_settle_4 := rfl
theorem eX11_settle_5 : BX11_settle.getD 5 [] = bX11_settle_5 := rfl
theorem eX11_settle_6 : BX11_settle.getD 6 [] = bX11_settle_6 := rfl
theorem eX11_settle_7 : BX11_settle.getD 7 [] = bX11_settle_7 := rfl
theorem eX11_settle_8 : BX11_settle.getD 8 [] = bX11_settle_8 := rfl
theorem eX11_settle_9 : BX11_settle.getD 9 [] = bX11_settle_9 := rfl
theorem eX11_settle_10 : BX11_settle.getD 10 [] = bX11_settle_10 := rfl
theorem eX11_settle_11 : BX11_settle.getD 11 [] = bX11_settle_11 := rfl
theorem eX11_settle_12 : BX11_settle.getD 12 [] = bX11_settle_12 := rfl
theorem eX11_settle_13 : BX11_settle.getD 13 [] = bX11_settle_13 := rfl
theorem eX11_settle_14 : BX11_settle.getD 14 [] = bX11_settle_14 := rfl
theorem eX11_settle_15 : BX11_settle.getD 15 [] = bX11_settle_15 := rfl
theorem eX11_settle_16 : BX11_settle.getD 16 [] = bX11_settle_16 := rfl
theorem eX11_settle_17 : BX11_settle.getD 17 [] = bX11_settle_17 := rfl
def bX11_unroll_0 : List In := [(0, 6, 0, 1, 0, []), (1, 6, 0, 1, 0, []), (2, 4, 0, 1, 1, []), (3, 77, 7032, 309, 2, [46, 11]), (6, 1, -1, 0, 0, []), (7, 79, 6143, 277, 3, [177, 11]), (10, 6, 0, 1, 0, []), (11, 79, 7048, 313, 1, [106, 11]), (14, 64, 0, 0, 0, [])]
def BX11_unroll : List (List In) := [bX11_unroll_0]
set_option maxRecDepth 100000 in
theorem mkX11_unroll : MkB 197 BX11_unroll := MkB_of (by decide +kernel)
theorem lX11_unroll : (sgD 197).2.2.1 = 2 := rfl
theorem eX11_unroll_0 : BX11_unroll.getD 0 [] = bX11_unroll_0 := rfl
def bX11_whyNot_0 : List In := [(0, 4, 0, 1, 1, []), (1, 65, 6129, 204, 1, [98, 0]), (4, 55, 1, 0, 1, []), (7, 1, -1, 0, 0, []), (8, 60, 0, 0, 0, [])]
def bX11_whyNot_1 : List In := [(9, 6, 0, 1, 0, []), (10, 37, 10, 0, 11, [214, 5127]), (13, 1, 60, 1, 0, []), (15, 56, 1, 0, 2, []), (18, 1, -4, 1, 0, []), (20, 60, 0, 0, 0, [])]
def bX11_whyNot_2 : List In := [(21, 6, 0, 1, 0, []), (22, 6, 0, 1, 0, []), (23, 39, 11, 0, 11, [1140981811, 40, 5128]), (26, 4, 0, 1, 1, []), (27, 47, 0, 0, 0, []), (28, 1, -1, 0, 0, []), (29, 79, 6143, 277, 3, [177, 11]), (32, 6, 0, 1, 0, []), (33, 4, 0, 1, 2, []), (34, 75, 6193, 270, 2, [145, 11]), (37, 55, 0, 0, 3, []), (40, 4, 0, 1, 3, []), (41, 55, 0, 0, 4, []), (44, 6, 0, 1, 0, []), (45, 39, 6, 0, 11, [1073873377, 28, 5123]), (48, 4, 0, 1, 2, []), (49, 45, 0, 0, 0, []), (50, 1, 1, 0, 0, []), (51, 56, 0, 0, 4, []), (54, 58, 0, 0, 3, [])]
def bX11_whyNot_3 : List In := [(54, 1, -5, 1, 0, []), (56, 57, 0, 0, 5, [])]
def bX11_whyNot_4 : List In := [(59, 1, 0, 0, 0, []), (60, 58, 0, 0, 5, [])]
def bX11_whyNot_5 : List In := [(60, 60, 0, 0, 0, [])]
def BX11_whyNot : List (List In) := [bX11_whyNot_0, bX11_whyNot_1, bX11_whyNot_2, bX11_whyNot_3, bX11_whyNot_4, bX11_whyNot_5]
set_option maxRecDepth 100000 in
theorem mkX11_whyNot : MkB 198 BX11_whyNot := MkB_of (by decide +kernel)
theorem lX11_whyNot : (sgD 198).2.2.1 = 4 := rfl
theorem eX11_whyNot_0 : BX11_whyNot.getD 0 [] = bX11_whyNot_0 := rfl
theorem eX11_whyNot_1 : BX11_whyNot.getD 1 [] = bX11_whyNot_1 := rfl
theorem eX11_whyNot_2 : BX11_whyNot.getD 2 [] = bX11_whyNot_2 := rfl
theorem eX11_whyNot_3 : BX11_whyNot.getD 3 [] = bX11_whyNot_3 := rfl
theorem eX11_whyNot_4 : BX11_whyNot.getD 4 [] = bX11_whyNot_4 := rfl
theorem eX11_whyNot_5 : BX11_whyNot.getD 5 [] = bX11_whyNot_5 := rfl
def bX11_digest_0 : List In := [(0, 6, 0, 1, 0, []), (1, 4, 0, 1, 1, []), (2, 75, 7027, 306, 2, [143, 11]), (5, 55, 1, 0, 1, []), (8, 2, -101, 1, 0, [331, 7088]), (11, 62, 0, 0, 0, [])]
def bX11_digest_1 : List In := [(12, 6, 0, 1, 0, []), (13, 4, 0, 1, 1, []), (14, 79, 7044, 316, 2, [197, 11]), (17, 2, 251, 1, 0, [333, 7089]), (20, 8, 0, 1, 2, []), (21, 1, 0, 0, 0, []), (22, 7, 0, 0, 4, []), (24, 58, 0, 0, 1002, [])]
def bX11_digest_2 : List In := [(24, 4, 0, 0, 4, []), (26, 6, 0, 1, 0, []), (27, 37, 33, 0, 11, [259, 5150]), (30, 56, 3, 0, 5, []), (33, 6, 0, 1, 0, []), (34, 39, 32, 0, 11, [1459749345, 99, 5149]), (37, 4, 0, 0, 4, []), (39, 45, 0, 0, 0, []), (40, 7, 0, 0, 5, []), (42, 2, 31, 1, 0, [335, 7090]), (45, 5, 0, 1, 2, []), (46, 25, 0, 0, 0, []), (47, 4, 0, 0, 5, []), (49, 32, 0, 0, 0, []), (50, 23, 0, 0, 0, []), (51, 8, 0, 1, 2, []), (52, 2, 31, 1, 0, [335, 7090]), (55, 5, 0, 1, 2, []), (56, 25, 0, 0, 0, []), (57, 6, 0, 1, 0, []), (58, 4, 0, 0, 5, []), (60, 75, 7064, 322, 2, [28, 11]), (63, 32, 0, 0, 0, []), (64, 23, 0, 0, 0, []), (65, 8, 0, 1, 2, []), (66, 1, 0, 0, 0, []), (67, 7, 0, 0, 6, []), (69, 58, 0, 0, 1003, [])]
def bX11_digest_3 : List In := [(69, 4, 0, 0, 6, []), (71, 6, 0, 1, 0, []), (72, 39, 24, 0, 11, [1325531617, 75, 5141]), (75, 4, 0, 0, 5, []), (77, 45, 0, 0, 0, []), (78, 56, 3, 0, 4, []), (81, 2, 31, 1, 0, [335, 7090]), (84, 5, 0, 1, 2, []), (85, 25, 0, 0, 0, []), (86, 6, 0, 1, 0, []), (87, 39, 25, 0, 11, [1342312193, 78, 5142]), (90, 1, 8, 1, 0, []), (92, 4, 0, 0, 5, []), (94, 13, 0, 0, 0, []), (95, 4, 0, 0, 6, []), (97, 11, 0, 0, 0, []), (98, 45, 0, 0, 0, []), (99, 32, 0, 0, 0, []), (100, 23, 0, 0, 0, []), (101, 8, 0, 1, 2, []), (102, 10, 1, 0, 6, []), (105, 57, 0, 0, 1003, [])]
def bX11_digest_4 : List In := [(108, 10, 1, 0, 4, []), (111, 57, 0, 0, 1002, [])]
def bX11_digest_5 : List In := [(114, 5, 0, 1, 2, []), (115, 62, 0, 0, 0, [])]
def BX11_digest : List (List In) := [bX11_digest_0, bX11_digest_1, bX11_digest_2, bX11_digest_3, bX11_digest_4, bX11_digest_5]
set_option maxRecDepth 100000 in
theorem mkX11_digest : MkB 204 BX11_digest := MkB_of (by decide +kernel)
theorem lX11_digest : (sgD 204).2.2.1 = 7 := rfl
theorem eX11_digest_0 : BX11_digest.getD 0 [] = bX11_digest_0 := rfl
theorem eX11_digest_1 : BX11_digest.getD 1 [] = bX11_digest_1 := rfl
theorem eX11_digest_2 : BX11_digest.getD 2 [] = bX11_digest_2 := rfl
theorem eX11_digest_3 : BX11_digest.getD 3 [] = bX11_digest_3 := rfl
theorem eX11_digest_4 : BX11_digest.getD 4 [] = bX11_digest_4 := rfl
theorem eX11_digest_5 : BX11_digest.getD 5 [] = bX11_digest_5 := rfl
def bX11_move_0 : List In := [(0, 6, 0, 1, 0, []), (1, 4, 0, 1, 1, []), (2, 4, 0, 1, 2, []), (3, 1, 0, 0, 0, []), (4, 75, 6209, 288, 4, [198, 11]), (7, 7, 0, 0, 5, []), (9, 4, 0, 0, 5, []), (11, 55, 3, 0, 1, []), (14, 4, 0, 0, 5, []), (16, 60, 0, 0, 0, [])]
def bX11_move_1 : List In := [(17, 6, 0, 1, 0, []), (18, 4, 0, 1, 3, []), (19, 75, 6189, 281, 2, [173, 11]), (22, 55, 0, 0, 3, []), (25, 4, 0, 0, 4, []), (27, 1, -1, 0, 0, []), (28, 56, 0, 0, 2, []), (31, 6, 0, 1, 0, []), (32, 4, 0, 0, 4, []), (34, 75, 6193, 270, 2, [145, 11]), (37, 55, 0, 0, 3, []), (40, 58, 0, 0, 2, [])]
def bX11_move_2 : List In := [(40, 4, 0, 0, 4, []), (42, 4, 0, 1, 2, []), (43, 56, 0, 0, 3, []), (46, 1, 1, 0, 0, []), (47, 57, 0, 0, 4, [])]
def bX11_move_3 : List In := [(50, 1, 0, 0, 0, []), (51, 58, 0, 0, 4, [])]
def bX11_move_4 : List In := [(51, 7, 0, 0, 6, []), (53, 4, 0, 0, 6, []), (55, 55, 0, 0, 5, []), (58, 4, 0, 1, 3, []), (59, 1, -1, 0, 0, []), (60, 56, 0, 0, 6, []), (63, 6, 0, 1, 0, []), (64, 4, 0, 1, 3, []), (65, 4, 0, 1, 2, []), (66, 75, 6177, 232, 3, [39, 11]), (69, 55, 0, 0, 6, []), (72, 58, 0, 0, 5, [])]
def bX11_move_5 : List In := [(72, 1, -5, 1, 0, []), (74, 60, 0, 0, 0, [])]
def bX11_move_6 : List In := [(75, 6, 0, 1, 0, []), (76, 4, 0, 1, 1, []), (77, 1, 2, 0, 0, []), (78, 4, 0, 1, 2, []), (79, 4, 0, 1, 3, []), (80, 4, 0, 0, 4, []), (82, 75, 6201, 284, 6, [102, 11]), (85, 60, 0, 0, 0, [])]
def BX11_move : List (List In) := [bX11_move_0, bX11_move_1, bX11_move_2, bX11_move_3, bX11_move_4, bX11_move_5, bX11_move_6]
set_option maxRecDepth 100000 in
theorem mkX11_move : MkB 205 BX11_move := MkB_of (by decide +kernel)
theorem lX11_move : (sgD 205).2.2.1 = 7 := rfl
theorem eX11_move_0 : BX11_move.getD 0 [] = bX11_move_0 := rfl
theorem eX11_move_1 : BX11_move.getD 1 [] = bX11_move_1 := rfl
theorem eX11_move_2 : BX11_move.getD 2 [] = bX11_move_2 := rfl
theorem eX11_move_3 : BX11_move.getD 3 [] = bX11_move_3 := rfl
theorem eX11_move_4 : BX11_move.getD 4 [] = bX11_move_4 := rfl
theorem eX11_move_5 : BX11_move.getD 5 [] = bX11_move_5 := rfl
theorem eX11_move_6 : BX11_move.getD 6 [] = bX11_move_6 := rfl
def bX11_note_0 : List In := [(0, 4, 0, 1, 1, []), (1, 65, 6129, 204, 1, [98, 0]), (4, 55, 0, 0, 1, []), (7, 4, 0, 1, 3, []), (8, 32, 0, 0, 0, []), (9, 2, 0, 0, 0, []), (10, 2, 3, 1, 0, [292, 6225]), (13, 65, 6133, 200, 3, [31, 0]), (16, 55, 1, 0, 1, []), (19, 1, -2, 1, 0, []), (21, 60, 0, 0, 0, [])]
def bX11_note_1 : List In := [(22, 6, 0, 1, 0, []), (23, 4, 0, 1, 1, []), (24, 4, 0, 1, 2, []), (25, 1, 1, 0, 0, []), (26, 75, 6209, 288, 4, [198, 11]), (29, 7, 0, 0, 4, []), (31, 4, 0, 0, 4, []), (33, 55, 3, 0, 2, []), (36, 4, 0, 0, 4, []), (38, 57, 0, 0, 3, [])]
def bX11_note_2 : List In := [(41, 6, 0, 1, 0, []), (42, 4, 0, 1, 1, []), (43, 1, 4, 0, 0, []), (44, 4, 0, 1, 2, []), (45, 4, 0, 1, 3, []), (46, 1, -6, 1, 0, []), (48, 75, 6201, 284, 6, [102, 11]), (51, 58, 0, 0, 3, [])]
def bX11_note_3 : List In := [(51, 60, 0, 0, 0, [])]
def BX11_note : List (List In) := [bX11_note_0, bX11_note_1, bX11_note_2, bX11_note_3]
set_option maxRecDepth 100000 in
theorem mkX11_note : MkB 206 BX11_note := MkB_of (by decide +kernel)
theorem lX11_note : (sgD 206).2.2.1 = 5 := rfl
theorem eX11_note_0 : BX11_note.getD 0 [] = bX11_note_0 := rfl
theorem eX11_note_1 : BX11_note.getD 1 [] = bX11_note_1 := rfl
theorem eX11_note_2 : BX11_note.getD 2 [] = bX11_note_2 := rfl
theorem eX11_note_3 : BX11_note.getD 3 [] = bX11_note_3 := rfl
def bX11_open_0 : List In := [(0, 6, 0, 1, 0, []), (1, 4, 0, 1, 1, []), (2, 75, 7027, 306, 2, [143, 11]), (5, 55, 1, 0, 1, []), (8, 1, -1, 0, 0, []), (9, 60, 0, 0, 0, [])]
def bX11_open_1 : List In := [(10, 6, 0, 1, 0, []), (11, 4, 0, 1, 1, []), (12, 79, 7044, 316, 2, [197, 11]), (15, 6, 0, 1, 0, []), (16, 75, 7125, 364, 1, [176, 11]), (19, 60, 0, 0, 0, [])]
def BX11_open : List (List In) := [bX11_open_0, bX11_open_1]
set_option maxRecDepth 100000 in
theorem mkX11_open : MkB 207 BX11_open := MkB_of (by decide +kernel)
theorem lX11_open : (sgD 207).2.2.1 = 2 := rfl
theorem eX11_open_0 : BX11_open.getD 0 [] = bX11_open_0 := rfl
theorem eX11_open_1 : BX11_open.getD 1 [] = bX11_open_1 := rfl
def bX11_seek_0 : List In := [(0, 6, 0, 1, 0, []), (1, 4, 0, 1, 1, []), (2, 75, 7027, 306, 2, [143, 11]), (5, 55, 0, 0, 1, []), (8, 4, 0, 1, 2, []), (9, 65, 6129, 204, 1, [98, 0]), (12, 55, 1, 0, 2, []), (15, 58, 0, 0, 1, [])]
def bX11_seek_1 : List In := [(15, 1, -1, 0, 0, []), (16, 60, 0, 0, 0, [])]
def bX11_seek_2 : List In := [(17, 6, 0, 1, 0, []), (18, 39, 15, 0, 11, [1191313457, 50, 5132]), (21, 4, 0, 1, 2, []), (22, 45, 0, 0, 0, []), (23, 7, 0, 0, 4, []), (25, 4, 0, 0, 4, []), (27, 55, 1, 0, 3, []), (30, 1, -3, 1, 0, []), (32, 60, 0, 0, 0, [])]
def bX11_seek_3 : List In := [(33, 6, 0, 1, 0, []), (34, 4, 0, 1, 1, []), (35, 79, 7044, 316, 2, [197, 11]), (38, 1, 0, 0, 0, []), (39, 7, 0, 0, 5, []), (41, 1, 0, 0, 0, []), (42, 7, 0, 0, 6, []), (44, 58, 0, 0, 1004, [])]
def bX11_seek_4 : List In := [(44, 4, 0, 0, 6, []), (46, 6, 0, 1, 0, []), (47, 37, 33, 0, 11, [259, 5150]), (50, 56, 3, 0, 11, []), (53, 6, 0, 1, 0, []), (54, 39, 32, 0, 11, [1459749345, 99, 5149]), (57, 4, 0, 0, 6, []), (59, 45, 0, 0, 0, []), (60, 7, 0, 0, 7, []), (62, 1, 0, 0, 0, []), (63, 7, 0, 0, 8, []), (65, 58, 0, 0, 1005, [])]
def bX11_seek_5 : List In := [(65, 4, 0, 0, 8, []), (67, 4, 0, 0, 4, []), (69, 11, 0, 0, 0, []), (70, 6, 0, 1, 0, []), (71, 39, 24, 0, 11, [1325531617, 75, 5141]), (74, 4, 0, 0, 7, []), (76, 45, 0, 0, 0, []), (77, 56, 4, 0, 10, []), (80, 1, 1, 0, 0, []), (81, 7, 0, 0, 9, []), (83, 1, 0, 0, 0, []), (84, 7, 0, 0, 10, []), (86, 58, 0, 0, 1006, [])]
def bX11_seek_6 : List In := [(86, 4, 0, 0, 10, []), (88, 4, 0, 0, 4, []), (90, 56, 3, 0, 7, []), (93, 4, 0, 0, 9, []), (95, 55, 0, 0, 7, []), (98, 6, 0, 1, 0, []), (99, 6, 0, 1, 0, []), (100, 39, 25, 0, 11, [1342312193, 78, 5142]), (103, 1, 8, 1, 0, []), (105, 4, 0, 0, 7, []), (107, 13, 0, 0, 0, []), (108, 4, 0, 0, 8, []), (110, 11, 0, 0, 0, []), (111, 4, 0, 0, 10, []), (113, 11, 0, 0, 0, []), (114, 45, 0, 0, 0, []), (115, 6, 0, 1, 0, []), (116, 39, 14, 0, 11, [1174536577, 47, 5131]), (119, 1, 8, 1, 0, []), (121, 4, 0, 1, 2, []), (122, 13, 0, 0, 0, []), (123, 4, 0, 0, 10, []), (125, 11, 0, 0, 0, []), (126, 45, 0, 0, 0, []), (127, 75, 7080, 328, 3, [24, 11]), (130, 7, 0, 0, 9, []), (132, 10, 1, 0, 10, []), (135, 57, 0, 0, 1006, [])]
def bX11_seek_7 : List In := [(138, 4, 0, 0, 9, []), (140, 55, 0, 0, 9, []), (143, 4, 0, 0, 5, []), (145, 4, 0, 1, 3, []), (146, 56, 1, 0, 8, []), (149, 1, 10, 1, 0, []), (151, 4, 0, 0, 7, []), (153, 13, 0, 0, 0, []), (154, 4, 0, 0, 8, []), (156, 11, 0, 0, 0, []), (157, 60, 0, 0, 0, [])]
def bX11_seek_8 : List In := [(158, 10, 1, 0, 5, []), (161, 58, 0, 0, 9, [])]
def bX11_seek_9 : List In := [(161, 10, 1, 0, 8, []), (164, 57, 0, 0, 1005, [])]
def bX11_seek_10 : List In := [(167, 10, 1, 0, 6, []), (170, 57, 0, 0, 1004, [])]
def bX11_seek_11 : List In := [(173, 4, 0, 1, 3, []), (174, 1, -1, 0, 0, []), (175, 56, 1, 0, 12, []), (178, 4, 0, 0, 5, []), (180, 57, 0, 0, 13, [])]
def bX11_seek_12 : List In := [(183, 1, -6, 1, 0, []), (185, 58, 0, 0, 13, [])]
def bX11_seek_13 : List In := [(185, 60, 0, 0, 0, [])]
def BX11_seek : List (List In) := [bX11_seek_0, bX11_seek_1, bX11_seek_2, bX11_seek_3, bX11_seek_4, bX11_seek_5, bX11_seek_6, bX11_seek_7, bX11_seek_8, bX11_seek_9, bX11_seek_10, bX11_seek_11, bX11_seek_12, bX11_seek_13]
set_option maxRecDepth 100000 in
theorem mkX11_seek : MkB 208 BX11_seek := MkB_of (by decide +kernel)
theorem lX11_seek : (sgD 208).2.2.1 = 11 := rfl
theorem eX11_seek_0 : BX11_seek.getD 0 [] = bX11_seek_0 := rfl
theorem eX11_seek_1 : BX11_seek.getD 1 [] = bX11_seek_1 := rfl
theorem eX11_seek_2 : BX11_seek.getD 2 [] = bX11_seek_2 := rfl
theorem eX11_seek_3 : BX11_seek.getD 3 [] = bX11_seek_3 := rfl
theorem eX11_seek_4 : BX11_seek.getD 4 [] = bX11_seek_4 := rfl
theorem eX11_seek_5 : BX11_seek.getD 5 [] = bX11_seek_5 := rfl
theorem eX11_seek_6 : BX11_seek.getD 6 [] = bX11_seek_6 := rfl
theorem eX11_seek_7 : BX11_seek.getD 7 [] = bX11_seek_7 := rfl
theorem eX11_seek_8 : BX11_seek.getD 8 [] = bX11_seek_8 := rfl
theorem eX11_seek_9 : BX11_seek.getD 9 [] = bX11_seek_9 := rfl
theorem eX11_seek_10 : BX11_seek.getD 10 [] = bX11_seek_10 := rfl
theorem eX11_seek_11 : BX11_seek.getD 11 [] = bX11_seek_11 := rfl
theorem eX11_seek_12 : BX11_seek.getD 12 [] = bX11_seek_12 := rfl
theorem eX11_seek_13 : BX11_seek.getD 13 [] = bX11_seek_13 := rfl
def bX11_seen_0 : List In := [(0, 6, 0, 1, 0, []), (1, 4, 0, 1, 1, []), (2, 75, 7027, 306, 2, [143, 11]), (5, 55, 1, 0, 1, []), (8, 1, -1, 0, 0, []), (9, 60, 0, 0, 0, [])]
def bX11_seen_1 : List In := [(10, 6, 0, 1, 0, []), (11, 4, 0, 1, 1, []), (12, 79, 7044, 316, 2, [197, 11]), (15, 4, 0, 1, 2, []), (16, 1, -1, 0, 0, []), (17, 56, 1, 0, 2, []), (20, 6, 0, 1, 0, []), (21, 37, 33, 0, 11, [259, 5150]), (24, 57, 0, 0, 4, [])]
def bX11_seen_2 : List In := [(27, 4, 0, 1, 2, []), (28, 32, 0, 0, 0, []), (29, 2, 0, 0, 0, []), (30, 6, 0, 1, 0, []), (31, 37, 33, 0, 11, [259, 5150]), (34, 1, 1, 0, 0, []), (35, 12, 0, 0, 0, []), (36, 32, 0, 0, 0, []), (37, 65, 6133, 200, 3, [31, 0]), (40, 55, 0, 0, 3, []), (43, 6, 0, 1, 0, []), (44, 39, 32, 0, 11, [1459749345, 99, 5149]), (47, 4, 0, 1, 2, []), (48, 45, 0, 0, 0, []), (49, 57, 0, 0, 4, [])]
def bX11_seen_3 : List In := [(52, 1, -6, 1, 0, []), (54, 58, 0, 0, 4, [])]
def bX11_seen_4 : List In := [(54, 60, 0, 0, 0, [])]
def BX11_seen : List (List In) := [bX11_seen_0, bX11_seen_1, bX11_seen_2, bX11_seen_3, bX11_seen_4]
set_option maxRecDepth 100000 in
theorem mkX11_seen : MkB 209 BX11_seen := MkB_of (by decide +kernel)
theorem lX11_seen : (sgD 209).2.2.1 = 3 := rfl
theorem eX11_seen_0 : BX11_seen.getD 0 [] = bX11_seen_0 := rfl
theorem eX11_seen_1 : BX11_seen.getD 1 [] = bX11_seen_1 := rfl
theorem eX11_seen_2 : BX11_seen.getD 2 [] = bX11_seen_2 := rfl
theorem eX11_seen_3 : BX11_seen.getD 3 [] = bX11_seen_3 := rfl
theorem eX11_seen_4 : BX11_seen.getD 4 [] = bX11_seen_4 := rfl
def bX11_setSheet_0 : List In := [(0, 6, 0, 1, 0, []), (1, 5, 0, 1, 2, []), (2, 1, -1, 0, 0, []), (3, 79, 6143, 277, 3, [177, 11]), (6, 6, 0, 1, 0, []), (7, 79, 7048, 313, 1, [106, 11]), (10, 6, 0, 1, 0, []), (11, 4, 0, 1, 1, []), (12, 4, 0, 0, 4, []), (14, 79, 7208, 453, 3, [174, 11]), (17, 6, 0, 1, 0, []), (18, 1, 0, 0, 0, []), (19, 42, 71, 0, 11, [410, 5188]), (22, 1, 1, 0, 0, []), (23, 7, 0, 0, 7, []), (25, 6, 0, 1, 0, []), (26, 1, 0, 0, 0, []), (27, 44, 72, 0, 11, [456, 5189]), (30, 58, 0, 0, 1001, [])]
def bX11_setSheet_1 : List In := [(30, 4, 0, 0, 7, []), (32, 55, 0, 0, 10, []), (35, 6, 0, 1, 0, []), (36, 35, 0, 0, 0, []), (37, 37, 71, 0, 11, [410, 5188]), (40, 1, 1, 0, 0, []), (41, 11, 0, 0, 0, []), (42, 42, 71, 0, 11, [410, 5188]), (45, 6, 0, 1, 0, []), (46, 4, 0, 1, 1, []), (47, 4, 0, 0, 5, []), (49, 4, 0, 0, 6, []), (51, 79, 7212, 460, 4, [195, 11]), (54, 6, 0, 1, 0, []), (55, 37, 71, 0, 11, [410, 5188]), (58, 1, 1, 0, 0, []), (59, 56, 5, 0, 2, []), (62, 6, 0, 1, 0, []), (63, 4, 0, 1, 1, []), (64, 75, 8007, 463, 2, [33, 11]), (67, 55, 0, 0, 2, []), (70, 1, 1, 0, 0, []), (71, 57, 0, 0, 3, [])]
def bX11_setSheet_2 : List In := [(74, 1, 0, 0, 0, []), (75, 58, 0, 0, 3, [])]
def bX11_setSheet_3 : List In := [(75, 7, 0, 0, 8, []), (77, 6, 0, 1, 0, []), (78, 4, 0, 0, 8, []), (80, 55, 1, 0, 4, []), (83, 6, 0, 1, 0, []), (84, 37, 71, 0, 11, [410, 5188]), (87, 1, 10, 1, 0, []), (89, 56, 1, 0, 4, []), (92, 1, 1, 0, 0, []), (93, 57, 0, 0, 5, [])]
def bX11_setSheet_4 : List In := [(96, 1, 0, 0, 0, []), (97, 58, 0, 0, 5, [])]
def bX11_setSheet_5 : List In := [(97, 44, 72, 0, 11, [456, 5189]), (100, 4, 0, 0, 8, []), (102, 55, 1, 0, 6, []), (105, 6, 0, 1, 0, []), (106, 37, 71, 0, 11, [410, 5188]), (109, 1, 10, 1, 0, []), (111, 56, 3, 0, 6, []), (114, 1, 1, 0, 0, []), (115, 57, 0, 0, 7, [])]
def bX11_setSheet_6 : List In := [(118, 1, 0, 0, 0, []), (119, 58, 0, 0, 7, [])]
def bX11_setSheet_7 : List In := [(119, 7, 0, 0, 7, []), (121, 1, 0, 0, 0, []), (122, 7, 0, 0, 9, []), (124, 58, 0, 0, 1008, [])]
def bX11_setSheet_8 : List In := [(124, 4, 0, 0, 9, []), (126, 6, 0, 1, 0, []), (127, 37, 33, 0, 11, [259, 5150]), (130, 56, 3, 0, 9, []), (133, 4, 0, 0, 7, []), (135, 55, 0, 0, 9, []), (138, 6, 0, 1, 0, []), (139, 39, 70, 0, 11, [1963065825, 189, 5187]), (142, 6, 0, 1, 0, []), (143, 39, 32, 0, 11, [1459749345, 99, 5149]), (146, 4, 0, 0, 9, []), (148, 45, 0, 0, 0, []), (149, 6, 0, 1, 0, []), (150, 39, 64, 0, 11, [1862403009, 171, 5181]), (153, 1, 60, 1, 0, []), (155, 4, 0, 1, 1, []), (156, 13, 0, 0, 0, []), (157, 6, 0, 1, 0, []), (158, 39, 32, 0, 11, [1459749345, 99, 5149]), (161, 4, 0, 0, 9, []), (163, 45, 0, 0, 0, []), (164, 11, 0, 0, 0, []), (165, 45, 0, 0, 0, []), (166, 50, 0, 0, 0, []), (167, 10, 1, 0, 9, []), (170, 57, 0, 0, 1008, [])]
def bX11_setSheet_9 : List In := [(173, 57, 0, 0, 1001, [])]
def bX11_setSheet_10 : List In := [(176, 1, 0, 0, 0, []), (177, 7, 0, 0, 8, []), (179, 58, 0, 0, 1011, [])]
def bX11_setSheet_11 : List In := [(179, 4, 0, 0, 8, []), (181, 6, 0, 1, 0, []), (182, 37, 33, 0, 11, [259, 5150]), (185, 56, 3, 0, 14, []), (188, 6, 0, 1, 0, []), (189, 39, 69, 0, 11, [1946289089, 186, 5186]), (192, 1, 60, 1, 0, []), (194, 4, 0, 1, 1, []), (195, 13, 0, 0, 0, []), (196, 6, 0, 1, 0, []), (197, 39, 32, 0, 11, [1459749345, 99, 5149]), (200, 4, 0, 0, 8, []), (202, 45, 0, 0, 0, []), (203, 11, 0, 0, 0, []), (204, 6, 0, 1, 0, []), (205, 6, 0, 1, 0, []), (206, 39, 32, 0, 11, [1459749345, 99, 5149]), (209, 4, 0, 0, 8, []), (211, 45, 0, 0, 0, []), (212, 75, 7224, 407, 2, [109, 11]), (215, 55, 0, 0, 12, []), (218, 6, 0, 1, 0, []), (219, 39, 64, 0, 11, [1862403009, 171, 5181]), (222, 1, 60, 1, 0, []), (224, 4, 0, 1, 1, []), (225, 13, 0, 0, 0, []), (226, 6, 0, 1, 0, []), (227, 39, 28, 0, 11, [1392640481, 87, 5145]), (230, 6, 0, 1, 0, []), (231, 39, 32, 0, 11, [1459749345, 99, 5149]), (234, 4, 0, 0, 8, []), (236, 45, 0, 0, 0, []), (237, 45, 0, 0, 0, []), (238, 11, 0, 0, 0, []), (239, 45, 0, 0, 0, []), (240, 57, 0, 0, 13, [])]
def bX11_setSheet_12 : List In := [(243, 1, -6, 1, 0, []), (245, 58, 0, 0, 13, [])]
def bX11_setSheet_13 : List In := [(245, 50, 0, 0, 0, []), (246, 10, 1, 0, 8, []), (249, 57, 0, 0, 1011, [])]
def bX11_setSheet_14 : List In := [(252, 64, 0, 0, 0, [])]
def BX11_setSheet : List (List In) := [bX11_setSheet_0, bX11_setSheet_1, bX11_setSheet_2, bX11_setSheet_3, bX11_setSheet_4, bX11_setSheet_5, bX11_setSheet_6, bX11_setSheet_7, bX11_setSheet_8, bX11_setSheet_9, bX11_setSheet_10, bX11_setSheet_11, bX11_setSheet_12, bX11_setSheet_13, bX11_setSheet_14]
set_option maxRecDepth 100000 in
theorem mkX11_setSheet : MkB 210 BX11_setSheet := MkB_of (by decide +kernel)
theorem lX11_setSheet : (sgD 210).2.2.1 = 10 := rfl
theorem eX11_setSheet_0 : BX11_setSheet.getD 0 [] = bX11_setSheet_0 := rfl
theorem eX11_setSheet_1 : BX11_setSheet.getD 1 [] = bX11_setSheet_1 := rfl
theorem eX11_setSheet_2 : BX11_setSheet.getD 2 [] = bX11_setSheet_2 := rfl
theorem eX11_setSheet_3 : BX11_setSheet.getD 3 [] = bX11_setSheet_3 := rfl
theorem eX11_setSheet_4 : BX11_setSheet.getD 4 [] = bX11_setSheet_4 := rfl
theorem eX11_setSheet_5 : BX11_setSheet.getD 5 [] = bX11_setSheet_5 := rfl
theorem eX11_setSheet_6 : BX11_setSheet.getD 6 [] = bX11_setSheet_6 := rfl
theorem eX11_setSheet_7 : BX11_setSheet.getD 7 [] = bX11_setSheet_7 := rfl
theorem eX11_setSheet_8 : BX11_setSheet.getD 8 [] = bX11_setSheet_8 := rfl
theorem eX11_setSheet_9 : BX11_setSheet.getD 9 [] = bX11_setSheet_9 := rfl
theorem eX11_setSheet_10 : BX11_setSheet.getD 10 [] = bX11_setSheet_10 := rfl
theorem eX11_setSheet_11 : BX11_setSheet.getD 11 [] = bX11_setSheet_11 := rfl
theorem eX11_setSheet_12 : BX11_setSheet.getD 12 [] = bX11_setSheet_12 := rfl
theorem eX11_setSheet_13 : BX11_setSheet.getD 13 [] = bX11_setSheet_13 := rfl
theorem eX11_setSheet_14 : BX11_setSheet.getD 14 [] = bX11_setSheet_14 := rfl
def bX11_stale_0 : List In := [(0, 4, 0, 1, 1, []), (1, 65, 7137, 368, 1, [100, 0]), (4, 55, 0, 0, 1, []), (7, 6, 0, 1, 0, []), (8, 4, 0, 1, 2, []), (9, 75, 7027, 306, 2, [143, 11]), (12, 55, 1, 0, 2, []), (15, 58, 0, 0, 1, [])]
def bX11_stale_1 : List In := [(15, 1, -1, 0, 0, []), (16, 60, 0, 0, 0, [])]
def bX11_stale_2 : List In := [(17, 6, 0, 1, 0, []), (18, 4, 0, 1, 2, []), (19, 79, 7044, 316, 2, [197, 11]), (22, 1, 0, 0, 0, []), (23, 7, 0, 0, 4, []), (25, 1, 0, 0, 0, []), (26, 7, 0, 0, 5, []), (28, 58, 0, 0, 1003, [])]
def bX11_stale_3 : List In := [(28, 4, 0, 0, 5, []), (30, 6, 0, 1, 0, []), (31, 37, 33, 0, 11, [259, 5150]), (34, 56, 3, 0, 6, []), (37, 6, 0, 1, 0, []), (38, 39, 6, 0, 11, [1073873377, 28, 5123]), (41, 6, 0, 1, 0, []), (42, 39, 32, 0, 11, [1459749345, 99, 5149]), (45, 4, 0, 0, 5, []), (47, 45, 0, 0, 0, []), (48, 45, 0, 0, 0, []), (49, 1, 1, 0, 0, []), (50, 56, 1, 0, 5, []), (53, 6, 0, 1, 0, []), (54, 4, 0, 1, 1, []), (55, 6, 0, 1, 0, []), (56, 39, 32, 0, 11, [1459749345, 99, 5149]), (59, 4, 0, 0, 5, []), (61, 45, 0, 0, 0, []), (62, 75, 7144, 380, 3, [144, 11]), (65, 55, 0, 0, 5, []), (68, 4, 0, 0, 4, []), (70, 4, 0, 1, 3, []), (71, 56, 1, 0, 4, []), (74, 6, 0, 1, 0, []), (75, 39, 32, 0, 11, [1459749345, 99, 5149]), (78, 4, 0, 0, 5, []), (80, 45, 0, 0, 0, []), (81, 60, 0, 0, 0, [])]
def bX11_stale_4 : List In := [(82, 10, 1, 0, 4, []), (85, 58, 0, 0, 5, [])]
def bX11_stale_5 : List In := [(85, 10, 1, 0, 5, []), (88, 57, 0, 0, 1003, [])]
def bX11_stale_6 : List In := [(91, 4, 0, 1, 3, []), (92, 1, -1, 0, 0, []), (93, 56, 1, 0, 7, []), (96, 4, 0, 0, 4, []), (98, 57, 0, 0, 8, [])]
def bX11_stale_7 : List In := [(101, 1, -6, 1, 0, []), (103, 58, 0, 0, 8, [])]
def bX11_stale_8 : List In := [(103, 60, 0, 0, 0, [])]
def BX11_stale : List (List In) := [bX11_stale_0, bX11_stale_1, bX11_stale_2, bX11_stale_3, bX11_stale_4, bX11_stale_5, bX11_stale_6, bX11_stale_7, bX11_stale_8]
set_option maxRecDepth 100000 in
theorem mkX11_stale : MkB 211 BX11_stale := MkB_of (by decide +kernel)
theorem lX11_stale : (sgD 211).2.2.1 = 6 := rfl
theorem eX11_stale_0 : BX11_stale.getD 0 [] = bX11_stale_0 := rfl
theorem eX11_stale_1 : BX11_stale.getD 1 [] = bX11_stale_1 := rfl
theorem eX11_stale_2 : BX11_stale.getD 2 [] = bX11_stale_2 := rfl
theorem eX11_stale_3 : BX11_stale.getD 3 [] = bX11_stale_3 := rfl
theorem eX11_stale_4 : BX11_stale.getD 4 [] = bX11_stale_4 := rfl
theorem eX11_stale_5 : BX11_stale.getD 5 [] = bX11_stale_5 := rfl
theorem eX11_stale_6 : BX11_stale.getD 6 [] = bX11_stale_6 := rfl
theorem eX11_stale_7 : BX11_stale.getD 7 [] = bX11_stale_7 := rfl
theorem eX11_stale_8 : BX11_stale.getD 8 [] = bX11_stale_8 := rfl
def bX11_strike_0 : List In := [(0, 6, 0, 1, 0, []), (1, 4, 0, 1, 1, []), (2, 4, 0, 1, 2, []), (3, 1, 0, 0, 0, []), (4, 75, 6209, 288, 4, [198, 11]), (7, 7, 0, 1, 3, []), (8, 4, 0, 1, 3, []), (9, 55, 3, 0, 1, []), (12, 4, 0, 1, 3, []), (13, 57, 0, 0, 2, [])]
def bX11_strike_1 : List In := [(16, 6, 0, 1, 0, []), (17, 4, 0, 1, 1, []), (18, 1, 1, 0, 0, []), (19, 4, 0, 1, 2, []), (20, 1, -6, 1, 0, []), (22, 1, -6, 1, 0, []), (24, 75, 6201, 284, 6, [102, 11]), (27, 58, 0, 0, 2, [])]
def bX11_strike_2 : List In := [(27, 60, 0, 0, 0, [])]
def BX11_strike : List (List In) := [bX11_strike_0, bX11_strike_1, bX11_strike_2]
set_option maxRecDepth 100000 in
theorem mkX11_strike : MkB 212 BX11_strike := MkB_of (by decide +kernel)
theorem lX11_strike : (sgD 212).2.2.1 = 4 := rfl
theorem eX11_strike_0 : BX11_strike.getD 0 [] = bX11_strike_0 := rfl
theorem eX11_strike_1 : BX11_strike.getD 1 [] = bX11_strike_1 := rfl
theorem eX11_strike_2 : BX11_strike.getD 2 [] = bX11_strike_2 := rfl
def bX11_tie_0 : List In := [(0, 6, 0, 1, 0, []), (1, 4, 0, 1, 1, []), (2, 4, 0, 1, 2, []), (3, 1, 1, 0, 0, []), (4, 75, 6209, 288, 4, [198, 11]), (7, 7, 0, 0, 4, []), (9, 4, 0, 0, 4, []), (11, 55, 3, 0, 1, []), (14, 4, 0, 0, 4, []), (16, 60, 0, 0, 0, [])]
def bX11_tie_1 : List In := [(17, 4, 0, 1, 3, []), (18, 1, -1, 0, 0, []), (19, 56, 0, 0, 2, []), (22, 6, 0, 1, 0, []), (23, 4, 0, 1, 3, []), (24, 75, 6193, 270, 2, [145, 11]), (27, 55, 1, 0, 2, []), (30, 1, -5, 1, 0, []), (32, 57, 0, 0, 3, [])]
def bX11_tie_2 : List In := [(35, 6, 0, 1, 0, []), (36, 4, 0, 1, 1, []), (37, 1, 5, 0, 0, []), (38, 4, 0, 1, 2, []), (39, 4, 0, 1, 3, []), (40, 1, -6, 1, 0, []), (42, 75, 6201, 284, 6, [102, 11]), (45, 58, 0, 0, 3, [])]
def bX11_tie_3 : List In := [(45, 60, 0, 0, 0, [])]
def BX11_tie : List (List In) := [bX11_tie_0, bX11_tie_1, bX11_tie_2, bX11_tie_3]
set_option maxRecDepth 100000 in
theorem mkX11_tie : MkB 213 BX11_tie := MkB_of (by decide +kernel)
theorem lX11_tie : (sgD 213).2.2.1 = 5 := rfl
theorem eX11_tie_0 : BX11_tie.getD 0 [] = bX11_tie_0 := rfl
theorem eX11_tie_1 : BX11_tie.getD 1 [] = bX11_tie_1 := rfl
theorem eX11_tie_2 : BX11_tie.getD 2 [] = bX11_tie_2 := rfl
theorem eX11_tie_3 : BX11_tie.getD 3 [] = bX11_tie_3 := rfl
def bX11_unlike_0 : List In := [(0, 4, 0, 1, 1, []), (1, 65, 7137, 368, 1, [100, 0]), (4, 55, 0, 0, 1, []), (7, 6, 0, 1, 0, []), (8, 4, 0, 1, 2, []), (9, 75, 7027, 306, 2, [143, 11]), (12, 55, 1, 0, 2, []), (15, 58, 0, 0, 1, [])]
def bX11_unlike_1 : List In := [(15, 1, -1, 0, 0, []), (16, 60, 0, 0, 0, [])]
def bX11_unlike_2 : List In := [(17, 6, 0, 1, 0, []), (18, 4, 0, 1, 2, []), (19, 79, 7044, 316, 2, [197, 11]), (22, 1, 0, 0, 0, []), (23, 7, 0, 0, 4, []), (25, 1, 0, 0, 0, []), (26, 7, 0, 0, 5, []), (28, 58, 0, 0, 1003, [])]
def bX11_unlike_3 : List In := [(28, 4, 0, 0, 5, []), (30, 6, 0, 1, 0, []), (31, 37, 33, 0, 11, [259, 5150]), (34, 56, 3, 0, 6, []), (37, 6, 0, 1, 0, []), (38, 39, 6, 0, 11, [1073873377, 28, 5123]), (41, 6, 0, 1, 0, []), (42, 39, 32, 0, 11, [1459749345, 99, 5149]), (45, 4, 0, 0, 5, []), (47, 45, 0, 0, 0, []), (48, 45, 0, 0, 0, []), (49, 1, 1, 0, 0, []), (50, 56, 1, 0, 5, []), (53, 6, 0, 1, 0, []), (54, 4, 0, 1, 1, []), (55, 6, 0, 1, 0, []), (56, 39, 32, 0, 11, [1459749345, 99, 5149]), (59, 4, 0, 0, 5, []), (61, 45, 0, 0, 0, []), (62, 75, 7179, 396, 3, [172, 11]), (65, 55, 0, 0, 5, []), (68, 4, 0, 0, 4, []), (70, 4, 0, 1, 3, []), (71, 56, 1, 0, 4, []), (74, 6, 0, 1, 0, []), (75, 39, 32, 0, 11, [1459749345, 99, 5149]), (78, 4, 0, 0, 5, []), (80, 45, 0, 0, 0, []), (81, 60, 0, 0, 0, [])]
def bX11_unlike_4 : List In := [(82, 10, 1, 0, 4, []), (85, 58, 0, 0, 5, [])]
def bX11_unlike_5 : List In := [(85, 10, 1, 0, 5, []), (88, 57, 0, 0, 1003, [])]
def bX11_unlike_6 : List In := [(91, 4, 0, 1, 3, []), (92, 1, -1, 0, 0, []), (93, 56, 1, 0, 7, []), (96, 4, 0, 0, 4, []), (98, 57, 0, 0, 8, [])]
def bX11_unlike_7 : List In := [(101, 1, -6, 1, 0, []), (103, 58, 0, 0, 8, [])]
def bX11_unlike_8 : List In := [(103, 60, 0, 0, 0, [])]
def BX11_unlike : List (List In) := [bX11_unlike_0, bX11_unlike_1, bX11_unlike_2, bX11_unlike_3, bX11_unlike_4, bX11_unlike_5, bX11_unlike_6, bX11_unlike_7, bX11_unlike_8]
set_option maxRecDepth 100000 in
theorem mkX11_unlike : MkB 214 BX11_unlike := MkB_of (by decide +kernel)
theorem lX11_unlike : (sgD 214).2.2.1 = 6 := rfl
theorem eX11_unlike_0 : BX11_unlike.getD 0 [] = bX11_unlike_0 := rfl
theorem eX11_unlike_1 : BX11_unlike.getD 1 [] = bX11_unlike_1 := rfl
theorem eX11_unlike_2 : BX11_unlike.getD 2 [] = bX11_unlike_2 := rfl
theorem eX11_unlike_3 : BX11_unlike.getD 3 [] = bX11_unlike_3 := rfl
theorem eX11_unlike_4 : BX11_unlike.getD 4 [] = bX11_unlike_4 := rfl
theorem eX11_unlike_5 : BX11_unlike.getD 5 [] = bX11_unlike_5 := rfl
theorem eX11_unlike_6 : BX11_unlike.getD 6 [] = bX11_unlike_6 := rfl
theorem eX11_unlike_7 : BX11_unlike.getD 7 [] = bX11_unlike_7 := rfl
theorem eX11_unlike_8 : BX11_unlike.getD 8 [] = bX11_unlike_8 := rfl
def bX11_words_0 : List In := [(0, 6, 0, 1, 0, []), (1, 4, 0, 1, 1, []), (2, 4, 0, 1, 2, []), (3, 1, 1, 0, 0, []), (4, 75, 6209, 288, 4, [198, 11]), (7, 7, 0, 1, 3, []), (8, 4, 0, 1, 3, []), (9, 55, 3, 0, 1, []), (12, 4, 0, 1, 3, []), (13, 60, 0, 0, 0, [])]
def bX11_words_1 : List In := [(14, 6, 0, 1, 0, []), (15, 4, 0, 1, 1, []), (16, 1, 3, 0, 0, []), (17, 4, 0, 1, 2, []), (18, 1, -6, 1, 0, []), (20, 1, -6, 1, 0, []), (22, 75, 6201, 284, 6, [102, 11]), (25, 7, 0, 0, 4, []), (27, 1, 0, 0, 0, []), (28, 7, 0, 0, 5, []), (30, 58, 0, 0, 1002, [])]
def bX11_words_2 : List In := [(30, 4, 0, 0, 5, []), (32, 6, 0, 1, 0, []), (33, 39, 15, 0, 11, [1191313457, 50, 5132]), (36, 4, 0, 1, 1, []), (37, 45, 0, 0, 0, []), (38, 56, 3, 0, 3, []), (41, 6, 0, 1, 0, []), (42, 39, 9, 0, 11, [1124208385, 37, 5126]), (45, 1, 8, 1, 0, []), (47, 4, 0, 0, 4, []), (49, 13, 0, 0, 0, []), (50, 4, 0, 0, 5, []), (52, 11, 0, 0, 0, []), (53, 6, 0, 1, 0, []), (54, 39, 14, 0, 11, [1174536577, 47, 5131]), (57, 1, 8, 1, 0, []), (59, 4, 0, 1, 1, []), (60, 13, 0, 0, 0, []), (61, 4, 0, 0, 5, []), (63, 11, 0, 0, 0, []), (64, 45, 0, 0, 0, []), (65, 50, 0, 0, 0, []), (66, 10, 1, 0, 5, []), (69, 57, 0, 0, 1002, [])]
def bX11_words_3 : List In := [(72, 6, 0, 1, 0, []), (73, 39, 8, 0, 11, [1107427809, 34, 5125]), (76, 4, 0, 0, 4, []), (78, 6, 0, 1, 0, []), (79, 39, 15, 0, 11, [1191313457, 50, 5132]), (82, 4, 0, 1, 1, []), (83, 45, 0, 0, 0, []), (84, 50, 0, 0, 0, []), (85, 6, 0, 1, 0, []), (86, 39, 15, 0, 11, [1191313457, 50, 5132]), (89, 4, 0, 1, 1, []), (90, 1, 0, 0, 0, []), (91, 50, 0, 0, 0, []), (92, 4, 0, 0, 4, []), (94, 60, 0, 0, 0, [])]
def BX11_words : List (List In) := [bX11_words_0, bX11_words_1, bX11_words_2, bX11_words_3]
set_option maxRecDepth 100000 in
theorem mkX11_words : MkB 215 BX11_words := MkB_of (by decide +kernel)
theorem lX11_words : (sgD 215).2.2.1 = 6 := rfl
theorem eX11_words_0 : BX11_words.getD 0 [] = bX11_words_0 := rfl
theorem eX11_words_1 : BX11_words.getD 1 [] = bX11_words_1 := rfl
theorem eX11_words_2 : BX11_words.getD 2 [] = bX11_words_2 := rfl
theorem eX11_words_3 : BX11_words.getD 3 [] = bX11_words_3 := rfl
def bX11_yes_0 : List In := [(0, 4, 0, 1, 1, []), (1, 65, 6129, 204, 1, [98, 0]), (4, 55, 1, 0, 1, []), (7, 1, -1, 0, 0, []), (8, 60, 0, 0, 0, [])]
def bX11_yes_1 : List In := [(9, 6, 0, 1, 0, []), (10, 37, 43, 0, 11, [355, 5160]), (13, 1, 20, 1, 0, []), (15, 56, 1, 0, 2, []), (18, 1, -4, 1, 0, []), (20, 60, 0, 0, 0, [])]
def bX11_yes_2 : List In := [(21, 6, 0, 1, 0, []), (22, 4, 0, 1, 1, []), (23, 79, 7044, 316, 2, [197, 11]), (26, 4, 0, 1, 2, []), (27, 1, -1, 0, 0, []), (28, 56, 0, 0, 4, []), (31, 6, 0, 1, 0, []), (32, 4, 0, 1, 2, []), (33, 75, 6197, 267, 2, [99, 11]), (36, 55, 0, 0, 3, []), (39, 6, 0, 1, 0, []), (40, 4, 0, 1, 2, []), (41, 75, 7052, 262, 2, [38, 11]), (44, 55, 1, 0, 4, []), (47, 58, 0, 0, 3, [])]
def bX11_yes_3 : List In := [(47, 1, -5, 1, 0, []), (49, 60, 0, 0, 0, [])]
def bX11_yes_4 : List In := [(50, 6, 0, 1, 0, []), (51, 4, 0, 1, 2, []), (52, 79, 7117, 358, 2, [93, 11]), (55, 6, 0, 1, 0, []), (56, 39, 39, 0, 11, [1526857889, 111, 5156]), (59, 6, 0, 1, 0, []), (60, 37, 43, 0, 11, [355, 5160]), (63, 4, 0, 1, 1, []), (64, 50, 0, 0, 0, []), (65, 6, 0, 1, 0, []), (66, 39, 40, 0, 11, [1543635105, 114, 5157]), (69, 6, 0, 1, 0, []), (70, 37, 43, 0, 11, [355, 5160]), (73, 4, 0, 1, 2, []), (74, 50, 0, 0, 0, []), (75, 6, 0, 1, 0, []), (76, 39, 41, 0, 11, [1560412321, 117, 5158]), (79, 6, 0, 1, 0, []), (80, 37, 43, 0, 11, [355, 5160]), (83, 6, 0, 1, 0, []), (84, 37, 45, 0, 11, [352, 5162]), (87, 50, 0, 0, 0, []), (88, 1, 0, 0, 0, []), (89, 7, 0, 1, 3, []), (90, 58, 0, 0, 1005, [])]
def bX11_yes_5 : List In := [(90, 4, 0, 1, 3, []), (91, 6, 0, 1, 0, []), (92, 37, 45, 0, 11, [352, 5162]), (95, 56, 3, 0, 6, []), (98, 6, 0, 1, 0, []), (99, 39, 42, 0, 11, [1577266177, 120, 5159]), (102, 1, 480, 2, 0, []), (105, 6, 0, 1, 0, []), (106, 37, 43, 0, 11, [355, 5160]), (109, 13, 0, 0, 0, []), (110, 4, 0, 1, 3, []), (111, 11, 0, 0, 0, []), (112, 6, 0, 1, 0, []), (113, 39, 44, 0, 11, [1593970433, 123, 5161]), (116, 4, 0, 1, 3, []), (117, 45, 0, 0, 0, []), (118, 50, 0, 0, 0, []), (119, 10, 1, 0, 3, []), (122, 57, 0, 0, 1005, [])]
def bX11_yes_6 : List In := [(125, 6, 0, 1, 0, []), (126, 35, 0, 0, 0, []), (127, 37, 43, 0, 11, [355, 5160]), (130, 1, 1, 0, 0, []), (131, 11, 0, 0, 0, []), (132, 42, 43, 0, 11, [355, 5160]), (135, 6, 0, 1, 0, []), (136, 37, 43, 0, 11, [355, 5160]), (139, 60, 0, 0, 0, [])]
def BX11_yes : List (List In) := [bX11_yes_0, bX11_yes_1, bX11_yes_2, bX11_yes_3, bX11_yes_4, bX11_yes_5, bX11_yes_6]
set_option maxRecDepth 100000 in
theorem mkX11_yes : MkB 216 BX11_yes := MkB_of (by decide +kernel)
theorem lX11_yes : (sgD 216).2.2.1 = 4 := rfl
theorem eX11_yes_0 : BX11_yes.getD 0 [] = bX11_yes_0 := rfl
theorem eX11_yes_1 : BX11_yes.getD 1 [] = bX11_yes_1 := rfl
theorem eX11_yes_2 : BX11_yes.getD 2 [] = bX11_yes_2 := rfl
theorem eX11_yes_3 : BX11_yes.getD 3 [] = bX11_yes_3 := rfl
theorem eX11_yes_4 : BX11_yes.getD 4 [] = bX11_yes_4 := rfl
theorem eX11_yes_5 : BX11_yes.getD 5 [] = bX11_yes_5 := rfl
theorem eX11_yes_6 : BX11_yes.getD 6 [] = bX11_yes_6 := rfl
def bX11_setEdition_0 : List In := [(0, 6, 0, 1, 0, []), (1, 1, 0, 0, 0, []), (2, 6, 0, 1, 0, []), (3, 39, 56, 0, 11, [1744961587, 150, 5173]), (6, 4, 0, 1, 1, []), (7, 47, 0, 0, 0, []), (8, 6, 0, 1, 0, []), (9, 39, 57, 0, 11, [1761738801, 153, 5174]), (12, 4, 0, 1, 1, []), (13, 45, 0, 0, 0, []), (14, 6, 0, 1, 0, []), (15, 39, 58, 0, 11, [1778516017, 156, 5175]), (18, 4, 0, 1, 1, []), (19, 45, 0, 0, 0, []), (20, 6, 0, 1, 0, []), (21, 39, 59, 0, 11, [1795293233, 159, 5176]), (24, 4, 0, 1, 1, []), (25, 45, 0, 0, 0, []), (26, 79, 7204, 466, 6, [210, 11]), (29, 64, 0, 0, 0, [])]
def BX11_setEdition : List (List In) := [bX11_setEdition_0]
set_option maxRecDepth 100000 in
theorem mkX11_setEdition : MkB 241 BX11_setEdition := MkB_of (by decide +kernel)
theorem lX11_setEdition : (sgD 241).2.2.1 = 2 := rfl
theorem eX11_setEdition_0 : BX11_setEdition.getD 0 [] = bX11_setEdition_0 := rfl
def bX11_index_0 : List In := [(0, 6, 0, 1, 0, []), (1, 4, 0, 1, 1, []), (2, 75, 7196, 470, 2, [97, 11]), (5, 55, 1, 0, 1, []), (8, 1, -1, 0, 0, []), (9, 60, 0, 0, 0, [])]
def bX11_index_1 : List In := [(10, 4, 0, 1, 2, []), (11, 32, 0, 0, 0, []), (12, 2, 1, 0, 1, []), (13, 2, 99, 1, 0, [265, 6136]), (16, 65, 6133, 200, 3, [31, 0]), (19, 55, 1, 0, 2, []), (22, 1, -2, 1, 0, []), (24, 60, 0, 0, 0, [])]
def bX11_index_2 : List In := [(25, 6, 0, 1, 0, []), (26, 4, 0, 1, 1, []), (27, 79, 7200, 473, 2, [241, 11]), (30, 1, 0, 0, 0, []), (31, 7, 0, 0, 4, []), (33, 1, 1, 0, 0, []), (34, 7, 0, 0, 5, []), (36, 58, 0, 0, 1003, [])]
def bX11_index_3 : List In := [(36, 4, 0, 0, 5, []), (38, 6, 0, 1, 0, []), (39, 37, 73, 0, 11, [437, 5190]), (42, 56, 4, 0, 6, []), (45, 6, 0, 1, 0, []), (46, 4, 0, 1, 2, []), (47, 4, 0, 0, 5, []), (49, 75, 8023, 476, 3, [36, 11]), (52, 55, 0, 0, 5, []), (55, 4, 0, 0, 4, []), (57, 4, 0, 1, 3, []), (58, 56, 1, 0, 4, []), (61, 4, 0, 0, 5, []), (63, 60, 0, 0, 0, [])]
def bX11_index_4 : List In := [(64, 10, 1, 0, 4, []), (67, 58, 0, 0, 5, [])]
def bX11_index_5 : List In := [(67, 10, 1, 0, 5, []), (70, 57, 0, 0, 1003, [])]
def bX11_index_6 : List In := [(73, 4, 0, 1, 3, []), (74, 1, -1, 0, 0, []), (75, 56, 1, 0, 7, []), (78, 4, 0, 0, 4, []), (80, 57, 0, 0, 8, [])]
def bX11_index_7 : List In := [(83, 1, -6, 1, 0, []), (85, 58, 0, 0, 8, [])]
def bX11_index_8 : List In := [(85, 60, 0, 0, 0, [])]
def BX11_index : List (List In) := [bX11_index_0, bX11_index_1, bX11_index_2, bX11_index_3, bX11_index_4, bX11_index_5, bX11_index_6, bX11_index_7, bX11_index_8]
set_option maxRecDepth 100000 in
theorem mkX11_index : MkB 247 BX11_index := MkB_of (by decide +kernel)
theorem lX11_index : (sgD 247).2.2.1 = 6 := rfl
theorem eX11_index_0 : BX11_index.getD 0 [] = bX11_index_0 := rfl
theorem eX11_index_1 : BX11_index.getD 1 [] = bX11_index_1 := rfl
theorem eX11_index_2 : BX11_index.getD 2 [] = bX11_index_2 := rfl
theorem eX11_index_3 : BX11_index.getD 3 [] = bX11_index_3 := rfl
theorem eX11_index_4 : BX11_index.getD 4 [] = bX11_index_4 := rfl
theorem eX11_index_5 : BX11_index.getD 5 [] = bX11_index_5 := rfl
theorem eX11_index_6 : BX11_index.getD 6 [] = bX11_index_6 := rfl
theorem eX11_index_7 : BX11_index.getD 7 [] = bX11_index_7 := rfl
theorem eX11_index_8 : BX11_index.getD 8 [] = bX11_index_8 := rfl
def bX11_line_0 : List In := [(0, 6, 0, 1, 0, []), (1, 4, 0, 1, 1, []), (2, 75, 7196, 470, 2, [97, 11]), (5, 55, 0, 0, 1, []), (8, 6, 0, 1, 0, []), (9, 4, 0, 1, 2, []), (10, 75, 6197, 267, 2, [99, 11]), (13, 55, 1, 0, 2, []), (16, 58, 0, 0, 1, [])]
def bX11_line_1 : List In := [(16, 1, -1, 0, 0, []), (17, 60, 0, 0, 0, [])]
def bX11_line_2 : List In := [(18, 6, 0, 1, 0, []), (19, 4, 0, 1, 1, []), (20, 79, 7200, 473, 2, [241, 11]), (23, 6, 0, 1, 0, []), (24, 39, 61, 0, 11, [1812071362, 162, 5178]), (27, 4, 0, 1, 2, []), (28, 46, 0, 0, 0, []), (29, 55, 1, 0, 3, []), (32, 1, -1, 0, 0, []), (33, 60, 0, 0, 0, [])]
def bX11_line_3 : List In := [(34, 6, 0, 1, 0, []), (35, 39, 6, 0, 11, [1073873377, 28, 5123]), (38, 4, 0, 1, 2, []), (39, 45, 0, 0, 0, []), (40, 1, 1, 0, 0, []), (41, 56, 1, 0, 4, []), (44, 4, 0, 1, 3, []), (45, 32, 0, 0, 0, []), (46, 2, 0, 0, 0, []), (47, 6, 0, 1, 0, []), (48, 39, 66, 0, 11, [1895957441, 177, 5183]), (51, 4, 0, 1, 2, []), (52, 45, 0, 0, 0, []), (53, 1, 1, 0, 0, []), (54, 12, 0, 0, 0, []), (55, 32, 0, 0, 0, []), (56, 65, 6133, 200, 3, [31, 0]), (59, 55, 0, 0, 4, []), (62, 6, 0, 1, 0, []), (63, 39, 67, 0, 11, [1912743297, 180, 5184]), (66, 1, 10, 1, 0, []), (68, 4, 0, 1, 2, []), (69, 13, 0, 0, 0, []), (70, 4, 0, 1, 3, []), (71, 11, 0, 0, 0, []), (72, 45, 0, 0, 0, []), (73, 57, 0, 0, 5, [])]
def bX11_line_4 : List In := [(76, 1, -6, 1, 0, []), (78, 58, 0, 0, 5, [])]
def bX11_line_5 : List In := [(78, 60, 0, 0, 0, [])]
def BX11_line : List (List In) := [bX11_line_0, bX11_line_1, bX11_line_2, bX11_line_3, bX11_line_4, bX11_line_5]
set_option maxRecDepth 100000 in
theorem mkX11_line : MkB 248 BX11_line := MkB_of (by decide +kernel)
theorem lX11_line : (sgD 248).2.2.1 = 4 := rfl
theorem eX11_line_0 : BX11_line.getD 0 [] = bX11_line_0 := rfl
theorem eX11_line_1 : BX11_line.getD 1 [] = bX11_line_1 := rfl
theorem eX11_line_2 : BX11_line.getD 2 [] = bX11_line_2 := rfl
theorem eX11_line_3 : BX11_line.getD 3 [] = bX11_line_3 := rfl
theorem eX11_line_4 : BX11_line.getD 4 [] = bX11_line_4 := rfl
theorem eX11_line_5 : BX11_line.getD 5 [] = bX11_line_5 := rfl
def bX11_onPage_0 : List In := [(0, 6, 0, 1, 0, []), (1, 4, 0, 1, 1, []), (2, 75, 7196, 470, 2, [97, 11]), (5, 55, 0, 0, 1, []), (8, 6, 0, 1, 0, []), (9, 4, 0, 1, 2, []), (10, 75, 6197, 267, 2, [99, 11]), (13, 55, 1, 0, 2, []), (16, 58, 0, 0, 1, [])]
def bX11_onPage_1 : List In := [(16, 1, -1, 0, 0, []), (17, 60, 0, 0, 0, [])]
def bX11_onPage_2 : List In := [(18, 6, 0, 1, 0, []), (19, 4, 0, 1, 1, []), (20, 79, 7200, 473, 2, [241, 11]), (23, 6, 0, 1, 0, []), (24, 39, 61, 0, 11, [1812071362, 162, 5178]), (27, 4, 0, 1, 2, []), (28, 46, 0, 0, 0, []), (29, 55, 1, 0, 3, []), (32, 1, -1, 0, 0, []), (33, 60, 0, 0, 0, [])]
def bX11_onPage_3 : List In := [(34, 4, 0, 1, 3, []), (35, 59, 0, 3, 8, [4, 5, 6, 7])]
def bX11_onPage_4 : List In := [(64, 6, 0, 1, 0, []), (65, 39, 64, 0, 11, [1862403009, 171, 5181]), (68, 4, 0, 1, 2, []), (69, 45, 0, 0, 0, []), (70, 60, 0, 0, 0, [])]
def bX11_onPage_5 : List In := [(71, 6, 0, 1, 0, []), (72, 39, 66, 0, 11, [1895957441, 177, 5183]), (75, 4, 0, 1, 2, []), (76, 45, 0, 0, 0, []), (77, 60, 0, 0, 0, [])]
def bX11_onPage_6 : List In := [(78, 6, 0, 1, 0, []), (79, 39, 65, 0, 11, [1879180225, 174, 5182]), (82, 4, 0, 1, 2, []), (83, 45, 0, 0, 0, []), (84, 60, 0, 0, 0, [])]
def bX11_onPage_7 : List In := [(85, 6, 0, 1, 0, []), (86, 39, 69, 0, 11, [1946289089, 186, 5186]), (89, 4, 0, 1, 2, []), (90, 45, 0, 0, 0, []), (91, 60, 0, 0, 0, [])]
def bX11_onPage_8 : List In := [(92, 1, -2, 1, 0, []), (94, 60, 0, 0, 0, [])]
def BX11_onPage : List (List In) := [bX11_onPage_0, bX11_onPage_1, bX11_onPage_2, bX11_onPage_3, bX11_onPage_4, bX11_onPage_5, bX11_onPage_6, bX11_onPage_7, bX11_onPage_8]
set_option maxRecDepth 100000 in
theorem mkX11_onPage : MkB 249 BX11_onPage := MkB_of (by decide +kernel)
theorem lX11_onPage : (sgD 249).2.2.1 = 4 := rfl
theorem eX11_onPage_0 : BX11_onPage.getD 0 [] = bX11_onPage_0 := rfl
theorem eX11_onPage_1 : BX11_onPage.getD 1 [] = bX11_onPage_1 := rfl
theorem eX11_onPage_2 : BX11_onPage.getD 2 [] = bX11_onPage_2 := rfl
theorem eX11_onPage_3 : BX11_onPage.getD 3 [] = bX11_onPage_3 := rfl
theorem eX11_onPage_4 : BX11_onPage.getD 4 [] = bX11_onPage_4 := rfl
theorem eX11_onPage_5 : BX11_onPage.getD 5 [] = bX11_onPage_5 := rfl
theorem eX11_onPage_6 : BX11_onPage.getD 6 [] = bX11_onPage_6 := rfl
theorem eX11_onPage_7 : BX11_onPage.getD 7 [] = bX11_onPage_7 := rfl
theorem eX11_onPage_8 : BX11_onPage.getD 8 [] = bX11_onPage_8 := rfl
def bX11_pages_0 : List In := [(0, 6, 0, 1, 0, []), (1, 4, 0, 1, 1, []), (2, 75, 7196, 470, 2, [97, 11]), (5, 55, 1, 0, 1, []), (8, 1, -1, 0, 0, []), (9, 60, 0, 0, 0, [])]
def bX11_pages_1 : List In := [(10, 4, 0, 1, 2, []), (11, 32, 0, 0, 0, []), (12, 2, 0, 0, 0, []), (13, 2, 5, 1, 0, [198, 6132]), (16, 65, 6133, 200, 3, [31, 0]), (19, 55, 1, 0, 2, []), (22, 1, -2, 1, 0, []), (24, 60, 0, 0, 0, [])]
def bX11_pages_2 : List In := [(25, 6, 0, 1, 0, []), (26, 4, 0, 1, 1, []), (27, 79, 7200, 473, 2, [241, 11]), (30, 4, 0, 1, 2, []), (31, 59, 0, 4, 10, [3, 4, 5, 8, 9])]
def bX11_pages_3 : List In := [(64, 6, 0, 1, 0, []), (65, 37, 73, 0, 11, [437, 5190]), (68, 60, 0, 0, 0, [])]
def bX11_pages_4 : List In := [(69, 6, 0, 1, 0, []), (70, 37, 71, 0, 11, [410, 5188]), (73, 60, 0, 0, 0, [])]
def bX11_pages_5 : List In := [(74, 6, 0, 1, 0, []), (75, 37, 72, 0, 11, [456, 5189]), (78, 55, 0, 0, 6, []), (81, 1, 1, 0, 0, []), (82, 57, 0, 0, 7, [])]
def bX11_pages_6 : List In := [(85, 1, 0, 0, 0, []), (86, 58, 0, 0, 7, [])]
def bX11_pages_7 : List In := [(86, 60, 0, 0, 0, [])]
def bX11_pages_8 : List In := [(87, 6, 0, 1, 0, []), (88, 37, 75, 0, 11, [425, 5192]), (91, 60, 0, 0, 0, [])]
def bX11_pages_9 : List In := [(92, 6, 0, 1, 0, []), (93, 37, 74, 0, 11, [422, 5191]), (96, 60, 0, 0, 0, [])]
def bX11_pages_10 : List In := [(97, 6, 0, 1, 0, []), (98, 37, 76, 0, 11, [431, 5193]), (101, 60, 0, 0, 0, [])]
def BX11_pages : List (List In) := [bX11_pages_0, bX11_pages_1, bX11_pages_2, bX11_pages_3, bX11_pages_4, bX11_pages_5, bX11_pages_6, bX11_pages_7, bX11_pages_8, bX11_pages_9, bX11_pages_10]
set_option maxRecDepth 100000 in
theorem mkX11_pages : MkB 250 BX11_pages := MkB_of (by decide +kernel)
theorem lX11_pages : (sgD 250).2.2.1 = 3 := rfl
theorem eX11_pages_0 : BX11_pages.getD 0 [] = bX11_pages_0 := rfl
theorem eX11_pages_1 : BX11_pages.getD 1 [] = bX11_pages_1 := rfl
theorem eX11_pages_2 : BX11_pages.getD 2 [] = bX11_pages_2 := rfl
theorem eX11_pages_3 : BX11_pages.getD 3 [] = bX11_pages_3 := rfl
theorem eX11_pages_4 : BX11_pages.getD 4 [] = bX11_pages_4 := rfl
theorem eX11_pages_5 : BX11_pages.getD 5 [] = bX11_pages_5 := rfl
theorem eX11_pages_6 : BX11_pages.getD 6 [] = bX11_pages_6 := rfl
theorem eX11_pages_7 : BX11_pages.getD 7 [] = bX11_pages_7 := rfl
theorem eX11_pages_8 : BX11_pages.getD 8 [] = bX11_pages_8 := rfl
theorem eX11_pages_9 : BX11_pages.getD 9 [] = bX11_pages_9 := rfl
theorem eX11_pages_10 : BX11_pages.getD 10 [] = bX11_pages_10 := rfl
def bX11_reach_0 : List In := [(0, 6, 0, 1, 0, []), (1, 4, 0, 1, 1, []), (2, 75, 7196, 470, 2, [97, 11]), (5, 55, 0, 0, 1, []), (8, 6, 0, 1, 0, []), (9, 4, 0, 1, 2, []), (10, 75, 7027, 306, 2, [143, 11]), (13, 55, 1, 0, 2, []), (16, 58, 0, 0, 1, [])]
def bX11_reach_1 : List In := [(16, 1, -1, 0, 0, []), (17, 60, 0, 0, 0, [])]
def bX11_reach_2 : List In := [(18, 4, 0, 1, 3, []), (19, 32, 0, 0, 0, []), (20, 2, 0, 0, 0, []), (21, 2, 4, 1, 0, [347, 7108]), (24, 65, 6133, 200, 3, [31, 0]), (27, 55, 1, 0, 3, []), (30, 1, -2, 1, 0, []), (32, 60, 0, 0, 0, [])]
def bX11_reach_3 : List In := [(33, 6, 0, 1, 0, []), (34, 4, 0, 1, 1, []), (35, 79, 7200, 473, 2, [241, 11]), (38, 6, 0, 1, 0, []), (39, 75, 7125, 364, 1, [176, 11]), (42, 7, 0, 0, 4, []), (44, 6, 0, 1, 0, []), (45, 1, 1, 0, 0, []), (46, 6, 0, 1, 0, []), (47, 4, 0, 1, 2, []), (48, 77, 7032, 309, 2, [46, 11]), (51, 6, 0, 1, 0, []), (52, 39, 57, 0, 11, [1761738801, 153, 5174]), (55, 4, 0, 1, 1, []), (56, 45, 0, 0, 0, []), (57, 6, 0, 1, 0, []), (58, 39, 58, 0, 11, [1778516017, 156, 5175]), (61, 4, 0, 1, 1, []), (62, 45, 0, 0, 0, []), (63, 6, 0, 1, 0, []), (64, 39, 59, 0, 11, [1795293233, 159, 5176]), (67, 4, 0, 1, 1, []), (68, 45, 0, 0, 0, []), (69, 79, 7204, 466, 6, [210, 11]), (72, 4, 0, 1, 3, []), (73, 1, 4, 0, 0, []), (74, 56, 1, 0, 8, []), (77, 1, 0, 0, 0, []), (78, 7, 0, 0, 5, []), (80, 6, 0, 1, 0, []), (81, 75, 7125, 364, 1, [176, 11]), (84, 7, 0, 0, 6, []), (86, 1, 0, 0, 0, []), (87, 7, 0, 0, 7, []), (89, 58, 0, 0, 1004, [])]
def bX11_reach_4 : List In := [(89, 4, 0, 0, 7, []), (91, 6, 0, 1, 0, []), (92, 37, 38, 0, 11, [349, 5155]), (95, 56, 3, 0, 7, []), (98, 4, 0, 0, 5, []), (100, 4, 0, 0, 4, []), (102, 4, 0, 0, 7, []), (104, 21, 0, 0, 0, []), (105, 1, 1, 0, 0, []), (106, 17, 0, 0, 0, []), (107, 55, 1, 0, 5, []), (110, 4, 0, 0, 6, []), (112, 4, 0, 0, 7, []), (114, 21, 0, 0, 0, []), (115, 1, 1, 0, 0, []), (116, 17, 0, 0, 0, []), (117, 1, 1, 0, 0, []), (118, 56, 1, 0, 5, []), (121, 1, 1, 0, 0, []), (122, 57, 0, 0, 6, [])]
def bX11_reach_5 : List In := [(125, 1, 0, 0, 0, []), (126, 58, 0, 0, 6, [])]
def bX11_reach_6 : List In := [(126, 11, 0, 0, 0, []), (127, 7, 0, 0, 5, []), (129, 10, 1, 0, 7, []), (132, 57, 0, 0, 1004, [])]
def bX11_reach_7 : List In := [(135, 4, 0, 0, 5, []), (137, 60, 0, 0, 0, [])]
def bX11_reach_8 : List In := [(138, 1, 0, 0, 0, []), (139, 7, 0, 0, 5, []), (141, 1, -6, 1, 0, []), (143, 7, 0, 0, 6, []), (145, 1, 0, 0, 0, []), (146, 7, 0, 0, 7, []), (148, 58, 0, 0, 1009, [])]
def bX11_reach_9 : List In := [(148, 4, 0, 0, 7, []), (150, 6, 0, 1, 0, []), (151, 37, 10, 0, 11, [214, 5127]), (154, 56, 3, 0, 21, []), (157, 6, 0, 1, 0, []), (158, 4, 0, 0, 7, []), (160, 75, 6197, 267, 2, [99, 11]), (163, 55, 0, 0, 10, []), (166, 6, 0, 1, 0, []), (167, 39, 6, 0, 11, [1073873377, 28, 5123]), (170, 4, 0, 0, 7, []), (172, 45, 0, 0, 0, []), (173, 1, 1, 0, 0, []), (174, 56, 1, 0, 10, []), (177, 6, 0, 1, 0, []), (178, 39, 61, 0, 11, [1812071362, 162, 5178]), (181, 4, 0, 0, 7, []), (183, 46, 0, 0, 0, []), (184, 55, 0, 0, 10, []), (187, 6, 0, 1, 0, []), (188, 39, 61, 0, 11, [1812071362, 162, 5178]), (191, 1, 60, 1, 0, []), (193, 4, 0, 0, 7, []), (195, 11, 0, 0, 0, []), (196, 46, 0, 0, 0, []), (197, 55, 0, 0, 10, []), (200, 1, 1, 0, 0, []), (201, 57, 0, 0, 11, [])]
def bX11_reach_10 : List In := [(204, 1, 0, 0, 0, []), (205, 58, 0, 0, 11, [])]
def bX11_reach_11 : List In := [(205, 7, 0, 0, 8, []), (207, 6, 0, 1, 0, []), (208, 4, 0, 0, 7, []), (210, 75, 6197, 267, 2, [99, 11]), (213, 55, 0, 0, 12, []), (216, 6, 0, 1, 0, []), (217, 4, 0, 0, 7, []), (219, 75, 8031, 479, 2, [34, 11]), (222, 55, 0, 0, 12, []), (225, 1, 1, 0, 0, []), (226, 57, 0, 0, 13, [])]
def bX11_reach_12 : List In := [(229, 1, 0, 0, 0, []), (230, 58, 0, 0, 13, [])]
def bX11_reach_13 : List In := [(230, 7, 0, 0, 9, []), (232, 4, 0, 1, 3, []), (233, 55, 1, 0, 14, []), (236, 4, 0, 0, 9, []), (238, 55, 1, 0, 16, []), (241, 58, 0, 0, 14, [])]
def bX11_reach_14 : List In := [(241, 4, 0, 1, 3, []), (242, 1, 1, 0, 0, []), (243, 56, 1, 0, 15, []), (246, 4, 0, 0, 8, []), (248, 55, 0, 0, 15, []), (251, 6, 0, 1, 0, []), (252, 4, 0, 0, 7, []), (254, 75, 8035, 482, 2, [37, 11]), (257, 55, 1, 0, 16, []), (260, 58, 0, 0, 15, [])]
def bX11_reach_15 : List In := [(260, 4, 0, 1, 3, []), (261, 1, 2, 0, 0, []), (262, 56, 1, 0, 17, []), (265, 4, 0, 0, 8, []), (267, 55, 0, 0, 17, []), (270, 6, 0, 1, 0, []), (271, 39, 69, 0, 11, [1946289089, 186, 5186]), (274, 4, 0, 0, 7, []), (276, 45, 0, 0, 0, []), (277, 6, 0, 1, 0, []), (278, 39, 69, 0, 11, [1946289089, 186, 5186]), (281, 1, 60, 1, 0, []), (283, 4, 0, 0, 7, []), (285, 11, 0, 0, 0, []), (286, 45, 0, 0, 0, []), (287, 56, 0, 0, 17, []), (290, 58, 0, 0, 16, [])]
def bX11_reach_16 : List In := [(290, 10, 1, 0, 5, []), (293, 58, 0, 0, 17, [])]
def bX11_reach_17 : List In := [(293, 4, 0, 0, 9, []), (295, 55, 0, 0, 19, []), (298, 6, 0, 1, 0, []), (299, 39, 61, 0, 11, [1812071362, 162, 5178]), (302, 4, 0, 0, 7, []), (304, 46, 0, 0, 0, []), (305, 55, 0, 0, 19, []), (308, 4, 0, 0, 6, []), (310, 55, 2, 0, 18, []), (313, 6, 0, 1, 0, []), (314, 39, 64, 0, 11, [1862403009, 171, 5181]), (317, 4, 0, 0, 7, []), (319, 45, 0, 0, 0, []), (320, 4, 0, 0, 6, []), (322, 56, 3, 0, 19, []), (325, 58, 0, 0, 18, [])]
def bX11_reach_18 : List In := [(325, 6, 0, 1, 0, []), (326, 39, 64, 0, 11, [1862403009, 171, 5181]), (329, 4, 0, 0, 7, []), (331, 45, 0, 0, 0, []), (332, 57, 0, 0, 20, [])]
def bX11_reach_19 : List In := [(335, 4, 0, 0, 6, []), (337, 58, 0, 0, 20, [])]
def bX11_reach_20 : List In := [(337, 7, 0, 0, 6, []), (339, 10, 1, 0, 7, []), (342, 57, 0, 0, 1009, [])]
def bX11_reach_21 : List In := [(345, 4, 0, 1, 3, []), (346, 1, 3, 0, 0, []), (347, 56, 1, 0, 22, []), (350, 4, 0, 0, 6, []), (352, 57, 0, 0, 23, [])]
def bX11_reach_22 : List In := [(355, 4, 0, 0, 5, []), (357, 58, 0, 0, 23, [])]
def bX11_reach_23 : List In := [(357, 60, 0, 0, 0, [])]
def BX11_reach : List (List In) := [bX11_reach_0, bX11_reach_1, bX11_reach_2, bX11_reach_3, bX11_reach_4, bX11_reach_5, bX11_reach_6, bX11_reach_7, bX11_reach_8, bX11_reach_9, bX11_reach_10, bX11_reach_11, bX11_reach_12, bX11_reach_13, bX11_reach_14, bX11_reach_15, bX11_reach_16, bX11_reach_17, bX11_reach_18, bX11_reach_19, bX11_reach_20, bX11_reach_21, bX11_reach_22, bX11_reach_23]
set_option maxRecDepth 100000 in
theorem mkX11_reach : MkB 251 BX11_reach := MkB_of (by decide +kernel)
theorem lX11_reach : (sgD 251).2.2.1 = 10 := rfl
theorem eX11_reach_0 : BX11_reach.getD 0 [] = bX11_reach_0 := rfl
theorem eX11_reach_1 : BX11_reach.getD 1 [] = bX11_reach_1 := rfl
theorem eX11_reach_2 : BX11_reach.getD 2 [] = bX11_reach_2 := rfl
theorem eX11_reach_3 : BX11_reach.getD 3 [] = bX11_reach_3 := rfl
theorem eX11_reach_4 : BX11_reach.getD 4 [] = bX11_reach_4 := rfl
theorem eX11_reach_5 : BX11_reach.getD 5 [] = bX11_reach_5 := rfl
theorem eX11_reach_6 : BX11_reach.getD 6 [] = bX11_reach_6 := rfl
theorem eX11_reach_7 : BX11_reach.getD 7 [] = bX11_reach_7 := rfl
theorem eX11_reach_8 : BX11_reach.getD 8 [] = bX11_reach_8 := rfl
theorem eX11_reach_9 : BX11_reach.getD 9 [] = bX11_reach_9 := rfl
theorem eX11_reach_10 : BX11_reach.getD 10 [] = bX11_reach_10 := rfl
theorem eX11_reach_11 : BX11_reach.getD 11 [] = bX11_reach_11 := rfl
theorem eX11_reach_12 : BX11_reach.getD 12 [] = bX11_reach_12 := rfl
theorem eX11_reach_13 : BX11_reach.getD 13 [] = bX11_reach_13 := rfl
theorem eX11_reach_14 : BX11_reach.getD 14 [] = bX11_reach_14 := rfl
theorem eX11_reach_15 : BX11_reach.getD 15 [] = bX11_reach_15 := rfl
theorem eX11_reach_16 : BX11_reach.getD 16 [] = bX11_reach_16 := rfl
theorem eX11_reach_17 : BX11_reach.getD 17 [] = bX11_reach_17 := rfl
theorem eX11_reach_18 : BX11_reach.getD 18 [] = bX11_reach_18 := rfl
theorem eX11_reach_19 : BX11_reach.getD 19 [] = bX11_reach_19 := rfl
theorem eX11_reach_20 : BX11_reach.getD 20 [] = bX11_reach_20 := rfl
theorem eX11_reach_21 : BX11_reach.getD 21 [] = bX11_reach_21 := rfl
theorem eX11_reach_22 : BX11_reach.getD 22 [] = bX11_reach_22 := rfl
theorem eX11_reach_23 : BX11_reach.getD 23 [] = bX11_reach_23 := rfl
