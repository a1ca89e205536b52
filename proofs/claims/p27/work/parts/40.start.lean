/-! the two constructors, run by the kernel: what the heap is when the law's loop begins -/
def jm_Ha : jm_H := jm_mk jm_H0 12 0 17
def jm_Ra : Option (Option Value × jm_H) := jm_ev none 2500 (jm_rk 0 [.ref 2]) 0 0 (jm_en 0 [.ref 2]) [] jm_Ha
def jm_Hb : jm_H := match jm_Ra with
  | some x => jm_mk x.2 13 0 62
  | none => jm_H0
def jm_Rb : Option (Option Value × jm_H) := jm_ev none 2500 (jm_rk 154 [.ref 180]) 154 0 (jm_en 154 [.ref 180]) [] jm_Hb
/-- the heap behind both -/
def jm_G : jm_H := match jm_Rb with
  | some x => x.2
  | none => jm_H0

def jm_fl : List (Nat × Nat × Nat) := [(2, 12, 0), (3, 2, 0), (4, 9, 0), (5, 102, 2000), (6, 101, 8), (7, 10, 0), (8, 100, 400), (9, 100, 400), (10, 11, 0), (11, 4, 0), (12, 3, 0), (13, 5, 0), (14, 3, 0), (15, 5, 0), (16, 3, 0), (17, 5, 0), (18, 8, 0), (19, 101, 7), (20, 3, 0), (21, 5, 0), (22, 3, 0), (23, 5, 0), (24, 100, 400), (25, 1, 0), (26, 102, 80), (27, 3, 0), (28, 5, 0), (29, 3, 0), (30, 5, 0), (31, 7, 0), (32, 8, 0), (33, 101, 7), (34, 104, 40), (35, 7, 0), (36, 8, 0), (37, 101, 7), (38, 7, 0), (39, 8, 0), (40, 101, 7), (41, 7, 0), (42, 8, 0), (43, 101, 7), (44, 7, 0), (45, 8, 0), (46, 101, 7), (47, 7, 0), (48, 8, 0), (49, 101, 7), (50, 7, 0), (51, 8, 0), (52, 101, 7), (53, 7, 0), (54, 8, 0), (55, 101, 7), (56, 7, 0), (57, 8, 0), (58, 101, 7), (59, 7, 0), (60, 8, 0), (61, 101, 7), (62, 7, 0), (63, 8, 0), (64, 101, 7), (65, 7, 0), (66, 8, 0), (67, 101, 7), (68, 7, 0), (69, 8, 0), (70, 101, 7), (71, 7, 0), (72, 8, 0), (73, 101, 7), (74, 7, 0), (75, 8, 0), (76, 101, 7), (77, 7, 0), (78, 8, 0), (79, 101, 7), (80, 7, 0), (81, 8, 0), (82, 101, 7), (83, 7, 0), (84, 8, 0), (85, 101, 7), (86, 7, 0), (87, 8, 0), (88, 101, 7), (89, 7, 0), (90, 8, 0), (91, 101, 7), (92, 7, 0), (93, 8, 0), (94, 101, 7), (95, 7, 0), (96, 8, 0), (97, 101, 7), (98, 7, 0), (99, 8, 0), (100, 101, 7), (101, 7, 0), (102, 8, 0), (103, 101, 7), (104, 7, 0), (105, 8, 0), (106, 101, 7), (107, 7, 0), (108, 8, 0), (109, 101, 7), (110, 7, 0), (111, 8, 0), (112, 101, 7), (113, 7, 0), (114, 8, 0), (115, 101, 7), (116, 7, 0), (117, 8, 0), (118, 101, 7), (119, 7, 0), (120, 8, 0), (121, 101, 7), (122, 7, 0), (123, 8, 0), (124, 101, 7), (125, 7, 0), (126, 8, 0), (127, 101, 7), (128, 7, 0), (129, 8, 0), (130, 101, 7), (131, 7, 0), (132, 8, 0), (133, 101, 7), (134, 7, 0), (135, 8, 0), (136, 101, 7), (137, 7, 0), (138, 8, 0), (139, 101, 7), (140, 7, 0), (141, 8, 0), (142, 101, 7), (143, 7, 0), (144, 8, 0), (145, 101, 7), (146, 7, 0), (147, 8, 0), (148, 101, 7), (149, 7, 0), (150, 8, 0), (151, 101, 7), (152, 7, 0), (153, 8, 0), (154, 101, 7), (155, 105, 3), (156, 6, 0), (157, 7, 0), (158, 8, 0), (159, 101, 7), (160, 9, 0), (161, 102, 2000), (162, 6, 0), (163, 7, 0), (164, 8, 0), (165, 101, 7), (166, 9, 0), (167, 102, 2000), (168, 6, 0), (169, 7, 0), (170, 8, 0), (171, 101, 7), (172, 9, 0), (173, 102, 2000), (174, 100, 8), (175, 100, 4096), (176, 100, 36), (177, 10, 0), (178, 100, 400), (179, 100, 400), (180, 13, 0), (181, 102, 2000), (182, 102, 2000), (183, 100, 403), (184, 100, 403), (185, 100, 403), (186, 101, 403), (187, 101, 4), (188, 100, 20), (189, 100, 410), (190, 100, 410), (191, 100, 9), (192, 101, 8), (193, 100, 8), (194, 100, 410), (195, 100, 410), (196, 100, 9), (197, 100, 8), (198, 100, 8), (199, 100, 400), (200, 100, 400), (201, 100, 410), (202, 100, 800), (203, 100, 60), (204, 103, 3), (205, 100, 16), (206, 100, 16), (207, 100, 100), (208, 100, 4096)]
def jm_rl : List (Nat × Nat × Nat) := [(2, 0, 4), (2, 1, 3), (2, 2, 10), (2, 3, 11), (2, 4, 25), (2, 5, 27), (2, 6, 29), (2, 7, 31), (2, 8, 34), (2, 9, 155), (2, 10, 174), (2, 11, 175), (2, 12, 176), (3, 0, 4), (3, 1, 6), (4, 0, 5), (7, 0, 8), (7, 1, 9), (10, 0, 11), (10, 1, 18), (10, 2, 20), (10, 3, 22), (10, 4, 24), (11, 0, 12), (11, 1, 14), (11, 2, 16), (12, 0, 13), (14, 0, 15), (16, 0, 17), (18, 0, 19), (20, 0, 21), (22, 0, 23), (25, 0, 26), (27, 0, 28), (29, 0, 30), (31, 0, 32), (32, 0, 33), (34, 0, 35), (34, 1, 38), (34, 2, 41), (34, 3, 44), (34, 4, 47), (34, 5, 50), (34, 6, 53), (34, 7, 56), (34, 8, 59), (34, 9, 62), (34, 10, 65), (34, 11, 68), (34, 12, 71), (34, 13, 74), (34, 14, 77), (34, 15, 80), (34, 16, 83), (34, 17, 86), (34, 18, 89), (34, 19, 92), (34, 20, 95), (34, 21, 98), (34, 22, 101), (34, 23, 104), (34, 24, 107), (34, 25, 110), (34, 26, 113), (34, 27, 116), (34, 28, 119), (34, 29, 122), (34, 30, 125), (34, 31, 128), (34, 32, 131), (34, 33, 134), (34, 34, 137), (34, 35, 140), (34, 36, 143), (34, 37, 146), (34, 38, 149), (34, 39, 152), (35, 0, 36), (36, 0, 37), (38, 0, 39), (39, 0, 40), (41, 0, 42), (42, 0, 43), (44, 0, 45), (45, 0, 46), (47, 0, 48), (48, 0, 49), (50, 0, 51), (51, 0, 52), (53, 0, 54), (54, 0, 55), (56, 0, 57), (57, 0, 58), (59, 0, 60), (60, 0, 61), (62, 0, 63), (63, 0, 64), (65, 0, 66), (66, 0, 67), (68, 0, 69), (69, 0, 70), (71, 0, 72), (72, 0, 73), (74, 0, 75), (75, 0, 76), (77, 0, 78), (78, 0, 79), (80, 0, 81), (81, 0, 82), (83, 0, 84), (84, 0, 85), (86, 0, 87), (87, 0, 88), (89, 0, 90), (90, 0, 91), (92, 0, 93), (93, 0, 94), (95, 0, 96), (96, 0, 97), (98, 0, 99), (99, 0, 100), (101, 0, 102), (102, 0, 103), (104, 0, 105), (105, 0, 106), (107, 0, 108), (108, 0, 109), (110, 0, 111), (111, 0, 112), (113, 0, 114), (114, 0, 115), (116, 0, 117), (117, 0, 118), (119, 0, 120), (120, 0, 121), (122, 0, 123), (123, 0, 124), (125, 0, 126), (126, 0, 127), (128, 0, 129), (129, 0, 130), (131, 0, 132), (132, 0, 133), (134, 0, 135), (135, 0, 136), (137, 0, 138), (138, 0, 139), (140, 0, 141), (141, 0, 142), (143, 0, 144), (144, 0, 145), (146, 0, 147), (147, 0, 148), (149, 0, 150), (150, 0, 151), (152, 0, 153), (153, 0, 154), (155, 0, 156), (155, 1, 162), (155, 2, 168), (156, 0, 157), (156, 1, 160), (157, 0, 158), (158, 0, 159), (160, 0, 161), (162, 0, 163), (162, 1, 166), (163, 0, 164), (164, 0, 165), (166, 0, 167), (168, 0, 169), (168, 1, 172), (169, 0, 170), (170, 0, 171), (172, 0, 173), (177, 0, 178), (177, 1, 179), (180, 1, 181), (180, 3, 182), (180, 5, 183), (180, 6, 184), (180, 7, 185), (180, 8, 186), (180, 9, 187), (180, 17, 188), (180, 19, 189), (180, 20, 190), (180, 22, 191), (180, 23, 192), (180, 24, 193), (180, 26, 194), (180, 27, 195), (180, 28, 196), (180, 32, 197), (180, 33, 198), (180, 34, 199), (180, 35, 200), (180, 37, 201), (180, 38, 202), (180, 41, 203), (180, 42, 204), (180, 50, 205), (180, 51, 206), (180, 59, 207), (180, 61, 208)]
def jm_il : List (Nat × Nat × Int32) := [(2, 14, 0), (2, 15, 0), (2, 16, (-1)), (3, 3, 0), (3, 4, 0), (3, 5, 0), (3, 6, 0), (3, 8, 0), (3, 9, 0), (3, 10, 0), (3, 11, 0), (3, 12, 0), (3, 13, 0), (4, 1, 0), (7, 2, 0), (7, 3, 0), (7, 4, 0), (7, 5, 0), (10, 5, 0), (11, 3, 0), (12, 1, 0), (12, 2, 0), (12, 4, 0), (13, 0, 0), (13, 1, 0), (13, 2, 0), (13, 3, 0), (13, 4, 0), (14, 1, 0), (14, 2, 0), (14, 4, 0), (15, 0, 0), (15, 1, 0), (15, 2, 0), (15, 3, 0), (15, 4, 0), (16, 1, 0), (16, 2, 0), (16, 4, 0), (17, 0, 0), (17, 1, 0), (17, 2, 0), (17, 3, 0), (17, 4, 0), (18, 1, 0), (18, 2, 0), (20, 1, 0), (20, 2, 0), (20, 4, 0), (21, 0, 0), (21, 1, 0), (21, 2, 0), (21, 3, 0), (21, 4, 0), (22, 1, 0), (22, 2, 0), (22, 4, 0), (23, 0, 0), (23, 1, 0), (23, 2, 0), (23, 3, 0), (23, 4, 0), (25, 1, 0), (27, 1, 0), (27, 2, 0), (27, 4, 0), (28, 0, 0), (28, 1, 0), (28, 2, 0), (28, 3, 0), (28, 4, 0), (29, 1, 0), (29, 2, 0), (29, 4, 0), (30, 0, 0), (30, 1, 0), (30, 2, 0), (30, 3, 0), (30, 4, 0), (31, 1, 8), (31, 2, 1), (32, 1, 0), (32, 2, 0), (35, 1, 8), (35, 2, 1), (36, 1, 0), (36, 2, 0), (38, 1, 8), (38, 2, 1), (39, 1, 0), (39, 2, 0), (41, 1, 8), (41, 2, 1), (42, 1, 0), (42, 2, 0), (44, 1, 8), (44, 2, 1), (45, 1, 0), (45, 2, 0), (47, 1, 8), (47, 2, 1), (48, 1, 0), (48, 2, 0), (50, 1, 8), (50, 2, 1), (51, 1, 0), (51, 2, 0), (53, 1, 8), (53, 2, 1), (54, 1, 0), (54, 2, 0), (56, 1, 8), (56, 2, 1), (57, 1, 0), (57, 2, 0), (59, 1, 8), (59, 2, 1), (60, 1, 0), (60, 2, 0), (62, 1, 8), (62, 2, 1), (63, 1, 0), (63, 2, 0), (65, 1, 8), (65, 2, 1), (66, 1, 0), (66, 2, 0), (68, 1, 8), (68, 2, 1), (69, 1, 0), (69, 2, 0), (71, 1, 8), (71, 2, 1), (72, 1, 0), (72, 2, 0), (74, 1, 8), (74, 2, 1), (75, 1, 0), (75, 2, 0), (77, 1, 8), (77, 2, 1), (78, 1, 0), (78, 2, 0), (80, 1, 8), (80, 2, 1), (81, 1, 0), (81, 2, 0), (83, 1, 8), (83, 2, 1), (84, 1, 0), (84, 2, 0), (86, 1, 8), (86, 2, 1), (87, 1, 0), (87, 2, 0), (89, 1, 8), (89, 2, 1), (90, 1, 0), (90, 2, 0), (92, 1, 8), (92, 2, 1), (93, 1, 0), (93, 2, 0), (95, 1, 8), (95, 2, 1), (96, 1, 0), (96, 2, 0), (98, 1, 8), (98, 2, 1), (99, 1, 0), (99, 2, 0), (101, 1, 8), (101, 2, 1), (102, 1, 0), (102, 2, 0), (104, 1, 8), (104, 2, 1), (105, 1, 0), (105, 2, 0), (107, 1, 8), (107, 2, 1), (108, 1, 0), (108, 2, 0), (110, 1, 8), (110, 2, 1), (111, 1, 0), (111, 2, 0), (113, 1, 8), (113, 2, 1), (114, 1, 0), (114, 2, 0), (116, 1, 8), (116, 2, 1), (117, 1, 0), (117, 2, 0), (119, 1, 8), (119, 2, 1), (120, 1, 0), (120, 2, 0), (122, 1, 8), (122, 2, 1), (123, 1, 0), (123, 2, 0), (125, 1, 8), (125, 2, 1), (126, 1, 0), (126, 2, 0), (128, 1, 8), (128, 2, 1), (129, 1, 0), (129, 2, 0), (131, 1, 8), (131, 2, 1), (132, 1, 0), (132, 2, 0), (134, 1, 8), (134, 2, 1), (135, 1, 0), (135, 2, 0), (137, 1, 8), (137, 2, 1), (138, 1, 0), (138, 2, 0), (140, 1, 8), (140, 2, 1), (141, 1, 0), (141, 2, 0), (143, 1, 8), (143, 2, 1), (144, 1, 0), (144, 2, 0), (146, 1, 8), (146, 2, 1), (147, 1, 0), (147, 2, 0), (149, 1, 8), (149, 2, 1), (150, 1, 0), (150, 2, 0), (152, 1, 8), (152, 2, 1), (153, 1, 0), (153, 2, 0), (156, 2, 0), (157, 1, 8), (157, 2, 1), (158, 1, 0), (158, 2, 0), (160, 1, 0), (162, 2, 0), (163, 1, 8), (163, 2, 1), (164, 1, 0), (164, 2, 0), (166, 1, 0), (168, 2, 0), (169, 1, 8), (169, 2, 1), (170, 1, 0), (170, 2, 0), (172, 1, 0), (174, 0, 0), (174, 1, 0), (174, 2, 0), (174, 3, 0), (174, 4, 0), (174, 5, 0), (174, 6, 0), (174, 7, 0), (176, 0, (-1)), (176, 1, (-1)), (176, 2, (-1)), (176, 3, (-1)), (176, 4, (-1)), (176, 5, (-1)), (176, 6, (-1)), (176, 7, (-1)), (176, 8, (-1)), (176, 9, (-1)), (176, 10, (-1)), (176, 11, (-1)), (176, 12, (-1)), (176, 13, (-1)), (176, 14, (-1)), (176, 15, (-1)), (176, 16, (-1)), (176, 17, (-1)), (176, 18, (-1)), (176, 19, (-1)), (176, 20, (-1)), (176, 21, (-1)), (176, 22, (-1)), (176, 23, (-1)), (176, 24, (-1)), (176, 25, (-1)), (176, 26, (-1)), (176, 27, (-1)), (176, 28, (-1)), (176, 29, (-1)), (176, 30, (-1)), (176, 31, (-1)), (176, 32, (-1)), (176, 33, (-1)), (176, 34, (-1)), (176, 35, (-1)), (177, 2, 0), (177, 3, 0), (177, 4, 0), (177, 5, 0), (180, 0, 0), (180, 2, 0), (180, 4, 0), (180, 10, 0), (180, 11, 0), (180, 12, 0), (180, 13, 0), (180, 14, 0), (180, 15, 0), (180, 16, (-1)), (180, 18, 0), (180, 21, 0), (180, 25, 0), (180, 29, 0), (180, 30, 0), (180, 31, 0), (180, 36, 0), (180, 39, 0), (180, 40, 0), (180, 43, 0), (180, 44, 0), (180, 45, 0), (180, 46, 0), (180, 47, 0), (180, 48, 0), (180, 49, 0), (180, 52, 0), (180, 53, 0), (180, 55, 0), (180, 57, 0), (180, 58, 0), (180, 60, 0), (188, 0, 8), (188, 1, 1), (188, 2, 0), (188, 3, 0), (188, 4, 0), (188, 5, 0), (188, 6, 0), (188, 7, 0), (188, 8, 0), (188, 9, 0), (188, 10, 0), (188, 11, 0), (188, 12, 0), (188, 13, 0), (188, 14, 0), (188, 15, 0), (188, 16, 0), (188, 17, 0), (188, 18, 0), (188, 19, 0), (191, 0, 0), (191, 1, 0), (191, 2, 0), (191, 3, 0), (191, 4, 0), (191, 5, 0), (191, 6, 0), (191, 7, 0), (191, 8, 0), (193, 0, 0), (193, 1, 0), (193, 2, 0), (193, 3, 0), (193, 4, 0), (193, 5, 0), (193, 6, 0), (193, 7, 0), (196, 0, 0), (196, 1, 0), (196, 2, 0), (196, 3, 0), (196, 4, 0), (196, 5, 0), (196, 6, 0), (196, 7, 0), (196, 8, 0), (197, 0, 0), (197, 1, 0), (197, 2, 0), (197, 3, 0), (197, 4, 0), (197, 5, 0), (197, 6, 0), (197, 7, 0), (198, 0, 0), (198, 1, 0), (198, 2, 0), (198, 3, 0), (198, 4, 0), (198, 5, 0), (198, 6, 0), (198, 7, 0), (204, 0, 0), (204, 1, 0), (204, 2, 0), (205, 0, 0), (205, 1, 0), (205, 2, 0), (205, 3, 0), (205, 4, 0), (205, 5, 0), (205, 6, 0), (205, 7, 0), (205, 8, 0), (205, 9, 0), (205, 10, 0), (205, 11, 0), (205, 12, 0), (205, 13, 0), (205, 14, 0), (205, 15, 0), (206, 0, 0), (206, 1, 0), (206, 2, 0), (206, 3, 0), (206, 4, 0), (206, 5, 0), (206, 6, 0), (206, 7, 0), (206, 8, 0), (206, 9, 0), (206, 10, 0), (206, 11, 0), (206, 12, 0), (206, 13, 0), (206, 14, 0), (206, 15, 0)]
def jm_lll : List (Nat × Nat × Int64) := [(3, 7, 0), (6, 0, 0), (6, 1, 0), (6, 2, 0), (6, 3, 0), (6, 4, 0), (6, 5, 0), (6, 6, 0), (6, 7, 0), (12, 3, 0), (14, 3, 0), (16, 3, 0), (19, 0, 0), (19, 1, 0), (19, 2, 0), (19, 3, 0), (19, 4, 0), (19, 5, 0), (19, 6, 0), (20, 3, 0), (22, 3, 0), (27, 3, 0), (29, 3, 0), (33, 0, 0), (33, 1, 0), (33, 2, 0), (33, 3, 0), (33, 4, 0), (33, 5, 0), (33, 6, 0), (37, 0, 0), (37, 1, 0), (37, 2, 0), (37, 3, 0), (37, 4, 0), (37, 5, 0), (37, 6, 0), (40, 0, 0), (40, 1, 0), (40, 2, 0), (40, 3, 0), (40, 4, 0), (40, 5, 0), (40, 6, 0), (43, 0, 0), (43, 1, 0), (43, 2, 0), (43, 3, 0), (43, 4, 0), (43, 5, 0), (43, 6, 0), (46, 0, 0), (46, 1, 0), (46, 2, 0), (46, 3, 0), (46, 4, 0), (46, 5, 0), (46, 6, 0), (49, 0, 0), (49, 1, 0), (49, 2, 0), (49, 3, 0), (49, 4, 0), (49, 5, 0), (49, 6, 0), (52, 0, 0), (52, 1, 0), (52, 2, 0), (52, 3, 0), (52, 4, 0), (52, 5, 0), (52, 6, 0), (55, 0, 0), (55, 1, 0), (55, 2, 0), (55, 3, 0), (55, 4, 0), (55, 5, 0), (55, 6, 0), (58, 0, 0), (58, 1, 0), (58, 2, 0), (58, 3, 0), (58, 4, 0), (58, 5, 0), (58, 6, 0), (61, 0, 0), (61, 1, 0), (61, 2, 0), (61, 3, 0), (61, 4, 0), (61, 5, 0), (61, 6, 0), (64, 0, 0), (64, 1, 0), (64, 2, 0), (64, 3, 0), (64, 4, 0), (64, 5, 0), (64, 6, 0), (67, 0, 0), (67, 1, 0), (67, 2, 0), (67, 3, 0), (67, 4, 0), (67, 5, 0), (67, 6, 0), (70, 0, 0), (70, 1, 0), (70, 2, 0), (70, 3, 0), (70, 4, 0), (70, 5, 0), (70, 6, 0), (73, 0, 0), (73, 1, 0), (73, 2, 0), (73, 3, 0), (73, 4, 0), (73, 5, 0), (73, 6, 0), (76, 0, 0), (76, 1, 0), (76, 2, 0), (76, 3, 0), (76, 4, 0), (76, 5, 0), (76, 6, 0), (79, 0, 0), (79, 1, 0), (79, 2, 0), (79, 3, 0), (79, 4, 0), (79, 5, 0), (79, 6, 0), (82, 0, 0), (82, 1, 0), (82, 2, 0), (82, 3, 0), (82, 4, 0), (82, 5, 0), (82, 6, 0), (85, 0, 0), (85, 1, 0), (85, 2, 0), (85, 3, 0), (85, 4, 0), (85, 5, 0), (85, 6, 0), (88, 0, 0), (88, 1, 0), (88, 2, 0), (88, 3, 0), (88, 4, 0), (88, 5, 0), (88, 6, 0), (91, 0, 0), (91, 1, 0), (91, 2, 0), (91, 3, 0), (91, 4, 0), (91, 5, 0), (91, 6, 0), (94, 0, 0), (94, 1, 0), (94, 2, 0), (94, 3, 0), (94, 4, 0), (94, 5, 0), (94, 6, 0), (97, 0, 0), (97, 1, 0), (97, 2, 0), (97, 3, 0), (97, 4, 0), (97, 5, 0), (97, 6, 0), (100, 0, 0), (100, 1, 0), (100, 2, 0), (100, 3, 0), (100, 4, 0), (100, 5, 0), (100, 6, 0), (103, 0, 0), (103, 1, 0), (103, 2, 0), (103, 3, 0), (103, 4, 0), (103, 5, 0), (103, 6, 0), (106, 0, 0), (106, 1, 0), (106, 2, 0), (106, 3, 0), (106, 4, 0), (106, 5, 0), (106, 6, 0), (109, 0, 0), (109, 1, 0), (109, 2, 0), (109, 3, 0), (109, 4, 0), (109, 5, 0), (109, 6, 0), (112, 0, 0), (112, 1, 0), (112, 2, 0), (112, 3, 0), (112, 4, 0), (112, 5, 0), (112, 6, 0), (115, 0, 0), (115, 1, 0), (115, 2, 0), (115, 3, 0), (115, 4, 0), (115, 5, 0), (115, 6, 0), (118, 0, 0), (118, 1, 0), (118, 2, 0), (118, 3, 0), (118, 4, 0), (118, 5, 0), (118, 6, 0), (121, 0, 0), (121, 1, 0), (121, 2, 0), (121, 3, 0), (121, 4, 0), (121, 5, 0), (121, 6, 0), (124, 0, 0), (124, 1, 0), (124, 2, 0), (124, 3, 0), (124, 4, 0), (124, 5, 0), (124, 6, 0), (127, 0, 0), (127, 1, 0), (127, 2, 0), (127, 3, 0), (127, 4, 0), (127, 5, 0), (127, 6, 0), (130, 0, 0), (130, 1, 0), (130, 2, 0), (130, 3, 0), (130, 4, 0), (130, 5, 0), (130, 6, 0), (133, 0, 0), (133, 1, 0), (133, 2, 0), (133, 3, 0), (133, 4, 0), (133, 5, 0), (133, 6, 0), (136, 0, 0), (136, 1, 0), (136, 2, 0), (136, 3, 0), (136, 4, 0), (136, 5, 0), (136, 6, 0), (139, 0, 0), (139, 1, 0), (139, 2, 0), (139, 3, 0), (139, 4, 0), (139, 5, 0), (139, 6, 0), (142, 0, 0), (142, 1, 0), (142, 2, 0), (142, 3, 0), (142, 4, 0), (142, 5, 0), (142, 6, 0), (145, 0, 0), (145, 1, 0), (145, 2, 0), (145, 3, 0), (145, 4, 0), (145, 5, 0), (145, 6, 0), (148, 0, 0), (148, 1, 0), (148, 2, 0), (148, 3, 0), (148, 4, 0), (148, 5, 0), (148, 6, 0), (151, 0, 0), (151, 1, 0), (151, 2, 0), (151, 3, 0), (151, 4, 0), (151, 5, 0), (151, 6, 0), (154, 0, 0), (154, 1, 0), (154, 2, 0), (154, 3, 0), (154, 4, 0), (154, 5, 0), (154, 6, 0), (159, 0, 0), (159, 1, 0), (159, 2, 0), (159, 3, 0), (159, 4, 0), (159, 5, 0), (159, 6, 0), (165, 0, 0), (165, 1, 0), (165, 2, 0), (165, 3, 0), (165, 4, 0), (165, 5, 0), (165, 6, 0), (171, 0, 0), (171, 1, 0), (171, 2, 0), (171, 3, 0), (171, 4, 0), (171, 5, 0), (171, 6, 0), (180, 54, 0), (180, 56, 0), (187, 0, 381245), (187, 1, 8903), (187, 2, 365654), (187, 3, 14431), (192, 0, 0), (192, 1, 0), (192, 2, 0), (192, 3, 0), (192, 4, 0), (192, 5, 0), (192, 6, 0), (192, 7, 0)]
/-- what never changes: kinds, lengths, the references that are final -/
def jm_st (H : jm_H) : Prop := (∀ q ∈ jm_fl, jm_tg H q.1 = q.2.1 ∧ jm_ln H q.1 = q.2.2) ∧ (∀ q ∈ jm_rl, jm_R H q.1 q.2.1 = q.2.2) ∧ jm_n H = 207 ∧ jm_s H ≤ 100000
/-- the numbers of a fresh pair of objects -/
def jm_fresh (H : jm_H) : Prop := (∀ q ∈ jm_il, jm_I H q.1 q.2.1 = q.2.2) ∧ (∀ q ∈ jm_lll, jm_L H q.1 q.2.1 = q.2.2) ∧ jm_R H 2 13 = 177 ∧ jm_R H 3 2 = 7
theorem jm_gx : (decide ((jm_Ra.any fun x => decide (x.1 = none) && decide (jm_n x.2 = 178)) = true) && (decide ((jm_Rb.any fun x => decide (x.1 = none) && decide (jm_n x.2 = 207)) = true) && (decide ((jm_fl.all (fun q => decide (jm_tg jm_G q.1 = q.2.1) && decide (jm_ln jm_G q.1 = q.2.2)) && jm_rl.all (fun q => decide (jm_R jm_G q.1 q.2.1 = q.2.2)) && decide (jm_n jm_G = 207) && decide (jm_s jm_G ≤ 100000) && jm_il.all (fun q => decide (jm_I jm_G q.1 q.2.1 = q.2.2)) && jm_lll.all (fun q => decide (jm_L jm_G q.1 q.2.1 = q.2.2)) && decide (jm_R jm_G 2 13 = 177) && decide (jm_R jm_G 3 2 = 7)) = true) && (decide (∀ k : Nat, k < 20 → 2 ≤ k → jm_I jm_G 188 k = 0) && (decide (∀ k : Nat, k < 7 → jm_L jm_G 33 k = 0) && (decide (∀ r : Nat, r < 170 → (r = 31 ∨ (35 ≤ r ∧ r ≤ 152 ∧ r % 3 = 2) ∨ r = 157 ∨ r = 163 ∨ r = 169) → jm_I jm_G r 1 = 8 ∧ jm_I jm_G r 2 = 1) && (decide (∀ r : Nat, r < 171 → (r = 32 ∨ (36 ≤ r ∧ r ≤ 153 ∧ r % 3 = 0) ∨ r = 158 ∨ r = 164 ∨ r = 170) → jm_I jm_G r 1 = 0 ∧ jm_I jm_G r 2 = 0) && (decide (jm_I jm_G 4 1 = 0 ∧ jm_I jm_G 160 1 = 0 ∧ jm_I jm_G 166 1 = 0 ∧ jm_I jm_G 172 1 = 0 ∧ jm_I jm_G 2 14 = 0 ∧ jm_I jm_G 2 15 = 0 ∧ (∀ k : Nat, k < 8 → jm_I jm_G 174 k = 0) ∧ jm_I jm_G 7 2 = 0 ∧ jm_I jm_G 7 3 = 0 ∧ jm_I jm_G 177 2 = 0 ∧ jm_I jm_G 177 3 = 0 ∧ jm_I jm_G 10 5 = 0))))))))) = true := by decide +kernel
theorem jm_ck1 : (jm_Ra.any fun x => decide (x.1 = none) && decide (jm_n x.2 = 178)) = true := of_decide_eq_true ((Bool.and_eq_true _ _).mp jm_gx).1
theorem jm_ck2 : (jm_Rb.any fun x => decide (x.1 = none) && decide (jm_n x.2 = 207)) = true := of_decide_eq_true ((Bool.and_eq_true _ _).mp (((Bool.and_eq_true _ _).mp jm_gx).2)).1
theorem jm_gck : (jm_fl.all (fun q => decide (jm_tg jm_G q.1 = q.2.1) && decide (jm_ln jm_G q.1 = q.2.2)) && jm_rl.all (fun q => decide (jm_R jm_G q.1 q.2.1 = q.2.2)) && decide (jm_n jm_G = 207) && decide (jm_s jm_G ≤ 100000) && jm_il.all (fun q => decide (jm_I jm_G q.1 q.2.1 = q.2.2)) && jm_lll.all (fun q => decide (jm_L jm_G q.1 q.2.1 = q.2.2)) && decide (jm_R jm_G 2 13 = 177) && decide (jm_R jm_G 3 2 = 7)) = true := of_decide_eq_true ((Bool.and_eq_true _ _).mp (((Bool.and_eq_true _ _).mp (((Bool.and_eq_true _ _).mp jm_gx).2)).2)).1
theorem jm_G_st : jm_st jm_G := by
  have h := jm_gck
  simp only [Bool.and_eq_true, decide_eq_true_eq, List.all_eq_true] at h
  obtain ⟨⟨⟨⟨⟨⟨⟨h1, h2⟩, h3⟩, h4⟩, h5⟩, h6⟩, h7⟩, h8⟩ := h
  exact ⟨h1, h2, h3, h4⟩
theorem jm_G_fresh : jm_fresh jm_G := by
  have h := jm_gck
  simp only [Bool.and_eq_true, decide_eq_true_eq, List.all_eq_true] at h
  obtain ⟨⟨⟨⟨⟨⟨⟨h1, h2⟩, h3⟩, h4⟩, h5⟩, h6⟩, h7⟩, h8⟩ := h
  exact ⟨h5, h6, h7, h8⟩
theorem st_t2 {H : jm_H} (h : jm_st H) : jm_tg H 2 = 12 := (h.1 _ (List.mem_of_getElem? (i := 0) rfl)).1
theorem st_t3 {H : jm_H} (h : jm_st H) : jm_tg H 3 = 2 := (h.1 _ (List.mem_of_getElem? (i := 1) rfl)).1
theorem st_t4 {H : jm_H} (h : jm_st H) : jm_tg H 4 = 9 := (h.1 _ (List.mem_of_getElem? (i := 2) rfl)).1
theorem st_t5 {H : jm_H} (h : jm_st H) : jm_tg H 5 = 102 := (h.1 _ (List.mem_of_getElem? (i := 3) rfl)).1
theorem st_l5 {H : jm_H} (h : jm_st H) : jm_ln H 5 = 2000 := (h.1 _ (List.mem_of_getElem? (i := 3) rfl)).2
theorem st_t6 {H : jm_H} (h : jm_st H) : jm_tg H 6 = 101 := (h.1 _ (List.mem_of_getElem? (i := 4) rfl)).1
theorem st_l6 {H : jm_H} (h : jm_st H) : jm_ln H 6 = 8 := (h.1 _ (List.mem_of_getElem? (i := 4) rfl)).2
theorem st_t7 {H : jm_H} (h : jm_st H) : jm_tg H 7 = 10 := (h.1 _ (List.mem_of_getElem? (i := 5) rfl)).1
theorem st_t8 {H : jm_H} (h : jm_st H) : jm_tg H 8 = 100 := (h.1 _ (List.mem_of_getElem? (i := 6) rfl)).1
theorem st_l8 {H : jm_H} (h : jm_st H) : jm_ln H 8 = 400 := (h.1 _ (List.mem_of_getElem? (i := 6) rfl)).2
theorem st_t9 {H : jm_H} (h : jm_st H) : jm_tg H 9 = 100 := (h.1 _ (List.mem_of_getElem? (i := 7) rfl)).1
theorem st_l9 {H : jm_H} (h : jm_st H) : jm_ln H 9 = 400 := (h.1 _ (List.mem_of_getElem? (i := 7) rfl)).2
theorem st_t10 {H : jm_H} (h : jm_st H) : jm_tg H 10 = 11 := (h.1 _ (List.mem_of_getElem? (i := 8) rfl)).1
theorem st_t11 {H : jm_H} (h : jm_st H) : jm_tg H 11 = 4 := (h.1 _ (List.mem_of_getElem? (i := 9) rfl)).1
theorem st_t12 {H : jm_H} (h : jm_st H) : jm_tg H 12 = 3 := (h.1 _ (List.mem_of_getElem? (i := 10) rfl)).1
theorem st_t13 {H : jm_H} (h : jm_st H) : jm_tg H 13 = 5 := (h.1 _ (List.mem_of_getElem? (i := 11) rfl)).1
theorem st_t14 {H : jm_H} (h : jm_st H) : jm_tg H 14 = 3 := (h.1 _ (List.mem_of_getElem? (i := 12) rfl)).1
theorem st_t15 {H : jm_H} (h : jm_st H) : jm_tg H 15 = 5 := (h.1 _ (List.mem_of_getElem? (i := 13) rfl)).1
theorem st_t16 {H : jm_H} (h : jm_st H) : jm_tg H 16 = 3 := (h.1 _ (List.mem_of_getElem? (i := 14) rfl)).1
theorem st_t17 {H : jm_H} (h : jm_st H) : jm_tg H 17 = 5 := (h.1 _ (List.mem_of_getElem? (i := 15) rfl)).1
theorem st_t18 {H : jm_H} (h : jm_st H) : jm_tg H 18 = 8 := (h.1 _ (List.mem_of_getElem? (i := 16) rfl)).1
theorem st_t19 {H : jm_H} (h : jm_st H) : jm_tg H 19 = 101 := (h.1 _ (List.mem_of_getElem? (i := 17) rfl)).1
theorem st_l19 {H : jm_H} (h : jm_st H) : jm_ln H 19 = 7 := (h.1 _ (List.mem_of_getElem? (i := 17) rfl)).2
theorem st_t20 {H : jm_H} (h : jm_st H) : jm_tg H 20 = 3 := (h.1 _ (List.mem_of_getElem? (i := 18) rfl)).1
theorem st_t21 {H : jm_H} (h : jm_st H) : jm_tg H 21 = 5 := (h.1 _ (List.mem_of_getElem? (i := 19) rfl)).1
theorem st_t22 {H : jm_H} (h : jm_st H) : jm_tg H 22 = 3 := (h.1 _ (List.mem_of_getElem? (i := 20) rfl)).1
theorem st_t23 {H : jm_H} (h : jm_st H) : jm_tg H 23 = 5 := (h.1 _ (List.mem_of_getElem? (i := 21) rfl)).1
theorem st_t24 {H : jm_H} (h : jm_st H) : jm_tg H 24 = 100 := (h.1 _ (List.mem_of_getElem? (i := 22) rfl)).1
theorem st_l24 {H : jm_H} (h : jm_st H) : jm_ln H 24 = 400 := (h.1 _ (List.mem_of_getElem? (i := 22) rfl)).2
theorem st_t25 {H : jm_H} (h : jm_st H) : jm_tg H 25 = 1 := (h.1 _ (List.mem_of_getElem? (i := 23) rfl)).1
theorem st_t26 {H : jm_H} (h : jm_st H) : jm_tg H 26 = 102 := (h.1 _ (List.mem_of_getElem? (i := 24) rfl)).1
theorem st_l26 {H : jm_H} (h : jm_st H) : jm_ln H 26 = 80 := (h.1 _ (List.mem_of_getElem? (i := 24) rfl)).2
theorem st_t27 {H : jm_H} (h : jm_st H) : jm_tg H 27 = 3 := (h.1 _ (List.mem_of_getElem? (i := 25) rfl)).1
theorem st_t28 {H : jm_H} (h : jm_st H) : jm_tg H 28 = 5 := (h.1 _ (List.mem_of_getElem? (i := 26) rfl)).1
theorem st_t29 {H : jm_H} (h : jm_st H) : jm_tg H 29 = 3 := (h.1 _ (List.mem_of_getElem? (i := 27) rfl)).1
theorem st_t30 {H : jm_H} (h : jm_st H) : jm_tg H 30 = 5 := (h.1 _ (List.mem_of_getElem? (i := 28) rfl)).1
theorem st_t31 {H : jm_H} (h : jm_st H) : jm_tg H 31 = 7 := (h.1 _ (List.mem_of_getElem? (i := 29) rfl)).1
theorem st_t32 {H : jm_H} (h : jm_st H) : jm_tg H 32 = 8 := (h.1 _ (List.mem_of_getElem? (i := 30) rfl)).1
theorem st_t33 {H : jm_H} (h : jm_st H) : jm_tg H 33 = 101 := (h.1 _ (List.mem_of_getElem? (i := 31) rfl)).1
theorem st_l33 {H : jm_H} (h : jm_st H) : jm_ln H 33 = 7 := (h.1 _ (List.mem_of_getElem? (i := 31) rfl)).2
theorem st_t155 {H : jm_H} (h : jm_st H) : jm_tg H 155 = 105 := (h.1 _ (List.mem_of_getElem? (i := 153) rfl)).1
theorem st_l155 {H : jm_H} (h : jm_st H) : jm_ln H 155 = 3 := (h.1 _ (List.mem_of_getElem? (i := 153) rfl)).2
theorem st_t156 {H : jm_H} (h : jm_st H) : jm_tg H 156 = 6 := (h.1 _ (List.mem_of_getElem? (i := 154) rfl)).1
theorem st_t157 {H : jm_H} (h : jm_st H) : jm_tg H 157 = 7 := (h.1 _ (List.mem_of_getElem? (i := 155) rfl)).1
theorem st_t158 {H : jm_H} (h : jm_st H) : jm_tg H 158 = 8 := (h.1 _ (List.mem_of_getElem? (i := 156) rfl)).1
theorem st_t159 {H : jm_H} (h : jm_st H) : jm_tg H 159 = 101 := (h.1 _ (List.mem_of_getElem? (i := 157) rfl)).1
theorem st_l159 {H : jm_H} (h : jm_st H) : jm_ln H 159 = 7 := (h.1 _ (List.mem_of_getElem? (i := 157) rfl)).2
theorem st_t160 {H : jm_H} (h : jm_st H) : jm_tg H 160 = 9 := (h.1 _ (List.mem_of_getElem? (i := 158) rfl)).1
theorem st_t161 {H : jm_H} (h : jm_st H) : jm_tg H 161 = 102 := (h.1 _ (List.mem_of_getElem? (i := 159) rfl)).1
theorem st_l161 {H : jm_H} (h : jm_st H) : jm_ln H 161 = 2000 := (h.1 _ (List.mem_of_getElem? (i := 159) rfl)).2
theorem st_t162 {H : jm_H} (h : jm_st H) : jm_tg H 162 = 6 := (h.1 _ (List.mem_of_getElem? (i := 160) rfl)).1
theorem st_t163 {H : jm_H} (h : jm_st H) : jm_tg H 163 = 7 := (h.1 _ (List.mem_of_getElem? (i := 161) rfl)).1
theorem st_t164 {H : jm_H} (h : jm_st H) : jm_tg H 164 = 8 := (h.1 _ (List.mem_of_getElem? (i := 162) rfl)).1
theorem st_t165 {H : jm_H} (h : jm_st H) : jm_tg H 165 = 101 := (h.1 _ (List.mem_of_getElem? (i := 163) rfl)).1
theorem st_l165 {H : jm_H} (h : jm_st H) : jm_ln H 165 = 7 := (h.1 _ (List.mem_of_getElem? (i := 163) rfl)).2
theorem st_t166 {H : jm_H} (h : jm_st H) : jm_tg H 166 = 9 := (h.1 _ (List.mem_of_getElem? (i := 164) rfl)).1
theorem st_t167 {H : jm_H} (h : jm_st H) : jm_tg H 167 = 102 := (h.1 _ (List.mem_of_getElem? (i := 165) rfl)).1
theorem st_l167 {H : jm_H} (h : jm_st H) : jm_ln H 167 = 2000 := (h.1 _ (List.mem_of_getElem? (i := 165) rfl)).2
theorem st_t168 {H : jm_H} (h : jm_st H) : jm_tg H 168 = 6 := (h.1 _ (List.mem_of_getElem? (i := 166) rfl)).1
theorem st_t169 {H : jm_H} (h : jm_st H) : jm_tg H 169 = 7 := (h.1 _ (List.mem_of_getElem? (i := 167) rfl)).1
theorem st_t170 {H : jm_H} (h : jm_st H) : jm_tg H 170 = 8 := (h.1 _ (List.mem_of_getElem? (i := 168) rfl)).1
theorem st_t171 {H : jm_H} (h : jm_st H) : jm_tg H 171 = 101 := (h.1 _ (List.mem_of_getElem? (i := 169) rfl)).1
theorem st_l171 {H : jm_H} (h : jm_st H) : jm_ln H 171 = 7 := (h.1 _ (List.mem_of_getElem? (i := 169) rfl)).2
theorem st_t172 {H : jm_H} (h : jm_st H) : jm_tg H 172 = 9 := (h.1 _ (List.mem_of_getElem? (i := 170) rfl)).1
theorem st_t173 {H : jm_H} (h : jm_st H) : jm_tg H 173 = 102 := (h.1 _ (List.mem_of_getElem? (i := 171) rfl)).1
theorem st_l173 {H : jm_H} (h : jm_st H) : jm_ln H 173 = 2000 := (h.1 _ (List.mem_of_getElem? (i := 171) rfl)).2
theorem st_t174 {H : jm_H} (h : jm_st H) : jm_tg H 174 = 100 := (h.1 _ (List.mem_of_getElem? (i := 172) rfl)).1
theorem st_l174 {H : jm_H} (h : jm_st H) : jm_ln H 174 = 8 := (h.1 _ (List.mem_of_getElem? (i := 172) rfl)).2
theorem st_t175 {H : jm_H} (h : jm_st H) : jm_tg H 175 = 100 := (h.1 _ (List.mem_of_getElem? (i := 173) rfl)).1
theorem st_l175 {H : jm_H} (h : jm_st H) : jm_ln H 175 = 4096 := (h.1 _ (List.mem_of_getElem? (i := 173) rfl)).2
theorem st_t176 {H : jm_H} (h : jm_st H) : jm_tg H 176 = 100 := (h.1 _ (List.mem_of_getElem? (i := 174) rfl)).1
theorem st_l176 {H : jm_H} (h : jm_st H) : jm_ln H 176 = 36 := (h.1 _ (List.mem_of_getElem? (i := 174) rfl)).2
theorem st_t177 {H : jm_H} (h : jm_st H) : jm_tg H 177 = 10 := (h.1 _ (List.mem_of_getElem? (i := 175) rfl)).1
theorem st_t178 {H : jm_H} (h : jm_st H) : jm_tg H 178 = 100 := (h.1 _ (List.mem_of_getElem? (i := 176) rfl)).1
theorem st_l178 {H : jm_H} (h : jm_st H) : jm_ln H 178 = 400 := (h.1 _ (List.mem_of_getElem? (i := 176) rfl)).2
theorem st_t179 {H : jm_H} (h : jm_st H) : jm_tg H 179 = 100 := (h.1 _ (List.mem_of_getElem? (i := 177) rfl)).1
theorem st_l179 {H : jm_H} (h : jm_st H) : jm_ln H 179 = 400 := (h.1 _ (List.mem_of_getElem? (i := 177) rfl)).2
theorem st_t180 {H : jm_H} (h : jm_st H) : jm_tg H 180 = 13 := (h.1 _ (List.mem_of_getElem? (i := 178) rfl)).1
theorem st_t181 {H : jm_H} (h : jm_st H) : jm_tg H 181 = 102 := (h.1 _ (List.mem_of_getElem? (i := 179) rfl)).1
theorem st_l181 {H : jm_H} (h : jm_st H) : jm_ln H 181 = 2000 := (h.1 _ (List.mem_of_getElem? (i := 179) rfl)).2
theorem st_t182 {H : jm_H} (h : jm_st H) : jm_tg H 182 = 102 := (h.1 _ (List.mem_of_getElem? (i := 180) rfl)).1
theorem st_l182 {H : jm_H} (h : jm_st H) : jm_ln H 182 = 2000 := (h.1 _ (List.mem_of_getElem? (i := 180) rfl)).2
theorem st_t183 {H : jm_H} (h : jm_st H) : jm_tg H 183 = 100 := (h.1 _ (List.mem_of_getElem? (i := 181) rfl)).1
theorem st_l183 {H : jm_H} (h : jm_st H) : jm_ln H 183 = 403 := (h.1 _ (List.mem_of_getElem? (i := 181) rfl)).2
theorem st_t184 {H : jm_H} (h : jm_st H) : jm_tg H 184 = 100 := (h.1 _ (List.mem_of_getElem? (i := 182) rfl)).1
theorem st_l184 {H : jm_H} (h : jm_st H) : jm_ln H 184 = 403 := (h.1 _ (List.mem_of_getElem? (i := 182) rfl)).2
theorem st_t185 {H : jm_H} (h : jm_st H) : jm_tg H 185 = 100 := (h.1 _ (List.mem_of_getElem? (i := 183) rfl)).1
theorem st_l185 {H : jm_H} (h : jm_st H) : jm_ln H 185 = 403 := (h.1 _ (List.mem_of_getElem? (i := 183) rfl)).2
theorem st_t186 {H : jm_H} (h : jm_st H) : jm_tg H 186 = 101 := (h.1 _ (List.mem_of_getElem? (i := 184) rfl)).1
theorem st_l186 {H : jm_H} (h : jm_st H) : jm_ln H 186 = 403 := (h.1 _ (List.mem_of_getElem? (i := 184) rfl)).2
theorem st_t187 {H : jm_H} (h : jm_st H) : jm_tg H 187 = 101 := (h.1 _ (List.mem_of_getElem? (i := 185) rfl)).1
theorem st_l187 {H : jm_H} (h : jm_st H) : jm_ln H 187 = 4 := (h.1 _ (List.mem_of_getElem? (i := 185) rfl)).2
theorem st_t188 {H : jm_H} (h : jm_st H) : jm_tg H 188 = 100 := (h.1 _ (List.mem_of_getElem? (i := 186) rfl)).1
theorem st_l188 {H : jm_H} (h : jm_st H) : jm_ln H 188 = 20 := (h.1 _ (List.mem_of_getElem? (i := 186) rfl)).2
theorem st_t189 {H : jm_H} (h : jm_st H) : jm_tg H 189 = 100 := (h.1 _ (List.mem_of_getElem? (i := 187) rfl)).1
theorem st_l189 {H : jm_H} (h : jm_st H) : jm_ln H 189 = 410 := (h.1 _ (List.mem_of_getElem? (i := 187) rfl)).2
theorem st_t190 {H : jm_H} (h : jm_st H) : jm_tg H 190 = 100 := (h.1 _ (List.mem_of_getElem? (i := 188) rfl)).1
theorem st_l190 {H : jm_H} (h : jm_st H) : jm_ln H 190 = 410 := (h.1 _ (List.mem_of_getElem? (i := 188) rfl)).2
theorem st_t191 {H : jm_H} (h : jm_st H) : jm_tg H 191 = 100 := (h.1 _ (List.mem_of_getElem? (i := 189) rfl)).1
theorem st_l191 {H : jm_H} (h : jm_st H) : jm_ln H 191 = 9 := (h.1 _ (List.mem_of_getElem? (i := 189) rfl)).2
theorem st_t192 {H : jm_H} (h : jm_st H) : jm_tg H 192 = 101 := (h.1 _ (List.mem_of_getElem? (i := 190) rfl)).1
theorem st_l192 {H : jm_H} (h : jm_st H) : jm_ln H 192 = 8 := (h.1 _ (List.mem_of_getElem? (i := 190) rfl)).2
theorem st_t193 {H : jm_H} (h : jm_st H) : jm_tg H 193 = 100 := (h.1 _ (List.mem_of_getElem? (i := 191) rfl)).1
theorem st_l193 {H : jm_H} (h : jm_st H) : jm_ln H 193 = 8 := (h.1 _ (List.mem_of_getElem? (i := 191) rfl)).2
theorem st_t194 {H : jm_H} (h : jm_st H) : jm_tg H 194 = 100 := (h.1 _ (List.mem_of_getElem? (i := 192) rfl)).1
theorem st_l194 {H : jm_H} (h : jm_st H) : jm_ln H 194 = 410 := (h.1 _ (List.mem_of_getElem? (i := 192) rfl)).2
theorem st_t195 {H : jm_H} (h : jm_st H) : jm_tg H 195 = 100 := (h.1 _ (List.mem_of_getElem? (i := 193) rfl)).1
theorem st_l195 {H : jm_H} (h : jm_st H) : jm_ln H 195 = 410 := (h.1 _ (List.mem_of_getElem? (i := 193) rfl)).2
theorem st_t196 {H : jm_H} (h : jm_st H) : jm_tg H 196 = 100 := (h.1 _ (List.mem_of_getElem? (i := 194) rfl)).1
theorem st_l196 {H : jm_H} (h : jm_st H) : jm_ln H 196 = 9 := (h.1 _ (List.mem_of_getElem? (i := 194) rfl)).2
theorem st_t197 {H : jm_H} (h : jm_st H) : jm_tg H 197 = 100 := (h.1 _ (List.mem_of_getElem? (i := 195) rfl)).1
theorem st_l197 {H : jm_H} (h : jm_st H) : jm_ln H 197 = 8 := (h.1 _ (List.mem_of_getElem? (i := 195) rfl)).2
theorem st_t198 {H : jm_H} (h : jm_st H) : jm_tg H 198 = 100 := (h.1 _ (List.mem_of_getElem? (i := 196) rfl)).1
theorem st_l198 {H : jm_H} (h : jm_st H) : jm_ln H 198 = 8 := (h.1 _ (List.mem_of_getElem? (i := 196) rfl)).2
theorem st_t199 {H : jm_H} (h : jm_st H) : jm_tg H 199 = 100 := (h.1 _ (List.mem_of_getElem? (i := 197) rfl)).1
theorem st_l199 {H : jm_H} (h : jm_st H) : jm_ln H 199 = 400 := (h.1 _ (List.mem_of_getElem? (i := 197) rfl)).2
theorem st_t200 {H : jm_H} (h : jm_st H) : jm_tg H 200 = 100 := (h.1 _ (List.mem_of_getElem? (i := 198) rfl)).1
theorem st_l200 {H : jm_H} (h : jm_st H) : jm_ln H 200 = 400 := (h.1 _ (List.mem_of_getElem? (i := 198) rfl)).2
theorem st_t201 {H : jm_H} (h : jm_st H) : jm_tg H 201 = 100 := (h.1 _ (List.mem_of_getElem? (i := 199) rfl)).1
theorem st_l201 {H : jm_H} (h : jm_st H) : jm_ln H 201 = 410 := (h.1 _ (List.mem_of_getElem? (i := 199) rfl)).2
theorem st_t202 {H : jm_H} (h : jm_st H) : jm_tg H 202 = 100 := (h.1 _ (List.mem_of_getElem? (i := 200) rfl)).1
theorem st_l202 {H : jm_H} (h : jm_st H) : jm_ln H 202 = 800 := (h.1 _ (List.mem_of_getElem? (i := 200) rfl)).2
theorem st_t203 {H : jm_H} (h : jm_st H) : jm_tg H 203 = 100 := (h.1 _ (List.mem_of_getElem? (i := 201) rfl)).1
theorem st_l203 {H : jm_H} (h : jm_st H) : jm_ln H 203 = 60 := (h.1 _ (List.mem_of_getElem? (i := 201) rfl)).2
theorem st_t204 {H : jm_H} (h : jm_st H) : jm_tg H 204 = 103 := (h.1 _ (List.mem_of_getElem? (i := 202) rfl)).1
theorem st_l204 {H : jm_H} (h : jm_st H) : jm_ln H 204 = 3 := (h.1 _ (List.mem_of_getElem? (i := 202) rfl)).2
theorem st_t205 {H : jm_H} (h : jm_st H) : jm_tg H 205 = 100 := (h.1 _ (List.mem_of_getElem? (i := 203) rfl)).1
theorem st_l205 {H : jm_H} (h : jm_st H) : jm_ln H 205 = 16 := (h.1 _ (List.mem_of_getElem? (i := 203) rfl)).2
theorem st_t206 {H : jm_H} (h : jm_st H) : jm_tg H 206 = 100 := (h.1 _ (List.mem_of_getElem? (i := 204) rfl)).1
theorem st_l206 {H : jm_H} (h : jm_st H) : jm_ln H 206 = 16 := (h.1 _ (List.mem_of_getElem? (i := 204) rfl)).2
theorem st_t207 {H : jm_H} (h : jm_st H) : jm_tg H 207 = 100 := (h.1 _ (List.mem_of_getElem? (i := 205) rfl)).1
theorem st_l207 {H : jm_H} (h : jm_st H) : jm_ln H 207 = 100 := (h.1 _ (List.mem_of_getElem? (i := 205) rfl)).2
theorem st_t208 {H : jm_H} (h : jm_st H) : jm_tg H 208 = 100 := (h.1 _ (List.mem_of_getElem? (i := 206) rfl)).1
theorem st_l208 {H : jm_H} (h : jm_st H) : jm_ln H 208 = 4096 := (h.1 _ (List.mem_of_getElem? (i := 206) rfl)).2
theorem st_r2_0 {H : jm_H} (h : jm_st H) : jm_R H 2 0 = 4 := h.2.1 _ (List.mem_of_getElem? (i := 0) rfl)
theorem st_r2_1 {H : jm_H} (h : jm_st H) : jm_R H 2 1 = 3 := h.2.1 _ (List.mem_of_getElem? (i := 1) rfl)
theorem st_r2_2 {H : jm_H} (h : jm_st H) : jm_R H 2 2 = 10 := h.2.1 _ (List.mem_of_getElem? (i := 2) rfl)
theorem st_r2_3 {H : jm_H} (h : jm_st H) : jm_R H 2 3 = 11 := h.2.1 _ (List.mem_of_getElem? (i := 3) rfl)
theorem st_r2_4 {H : jm_H} (h : jm_st H) : jm_R H 2 4 = 25 := h.2.1 _ (List.mem_of_getElem? (i := 4) rfl)
theorem st_r2_5 {H : jm_H} (h : jm_st H) : jm_R H 2 5 = 27 := h.2.1 _ (List.mem_of_getElem? (i := 5) rfl)
theorem st_r2_6 {H : jm_H} (h : jm_st H) : jm_R H 2 6 = 29 := h.2.1 _ (List.mem_of_getElem? (i := 6) rfl)
theorem st_r2_7 {H : jm_H} (h : jm_st H) : jm_R H 2 7 = 31 := h.2.1 _ (List.mem_of_getElem? (i := 7) rfl)
theorem st_r2_8 {H : jm_H} (h : jm_st H) : jm_R H 2 8 = 34 := h.2.1 _ (List.mem_of_getElem? (i := 8) rfl)
theorem st_r2_9 {H : jm_H} (h : jm_st H) : jm_R H 2 9 = 155 := h.2.1 _ (List.mem_of_getElem? (i := 9) rfl)
theorem st_r2_10 {H : jm_H} (h : jm_st H) : jm_R H 2 10 = 174 := h.2.1 _ (List.mem_of_getElem? (i := 10) rfl)
theorem st_r2_11 {H : jm_H} (h : jm_st H) : jm_R H 2 11 = 175 := h.2.1 _ (List.mem_of_getElem? (i := 11) rfl)
theorem st_r2_12 {H : jm_H} (h : jm_st H) : jm_R H 2 12 = 176 := h.2.1 _ (List.mem_of_getElem? (i := 12) rfl)
theorem st_r3_0 {H : jm_H} (h : jm_st H) : jm_R H 3 0 = 4 := h.2.1 _ (List.mem_of_getElem? (i := 13) rfl)
theorem st_r3_1 {H : jm_H} (h : jm_st H) : jm_R H 3 1 = 6 := h.2.1 _ (List.mem_of_getElem? (i := 14) rfl)
theorem st_r4_0 {H : jm_H} (h : jm_st H) : jm_R H 4 0 = 5 := h.2.1 _ (List.mem_of_getElem? (i := 15) rfl)
theorem st_r7_0 {H : jm_H} (h : jm_st H) : jm_R H 7 0 = 8 := h.2.1 _ (List.mem_of_getElem? (i := 16) rfl)
theorem st_r7_1 {H : jm_H} (h : jm_st H) : jm_R H 7 1 = 9 := h.2.1 _ (List.mem_of_getElem? (i := 17) rfl)
theorem st_r10_0 {H : jm_H} (h : jm_st H) : jm_R H 10 0 = 11 := h.2.1 _ (List.mem_of_getElem? (i := 18) rfl)
theorem st_r10_1 {H : jm_H} (h : jm_st H) : jm_R H 10 1 = 18 := h.2.1 _ (List.mem_of_getElem? (i := 19) rfl)
theorem st_r10_2 {H : jm_H} (h : jm_st H) : jm_R H 10 2 = 20 := h.2.1 _ (List.mem_of_getElem? (i := 20) rfl)
theorem st_r10_3 {H : jm_H} (h : jm_st H) : jm_R H 10 3 = 22 := h.2.1 _ (List.mem_of_getElem? (i := 21) rfl)
theorem st_r10_4 {H : jm_H} (h : jm_st H) : jm_R H 10 4 = 24 := h.2.1 _ (List.mem_of_getElem? (i := 22) rfl)
theorem st_r11_0 {H : jm_H} (h : jm_st H) : jm_R H 11 0 = 12 := h.2.1 _ (List.mem_of_getElem? (i := 23) rfl)
theorem st_r11_1 {H : jm_H} (h : jm_st H) : jm_R H 11 1 = 14 := h.2.1 _ (List.mem_of_getElem? (i := 24) rfl)
theorem st_r11_2 {H : jm_H} (h : jm_st H) : jm_R H 11 2 = 16 := h.2.1 _ (List.mem_of_getElem? (i := 25) rfl)
theorem st_r12_0 {H : jm_H} (h : jm_st H) : jm_R H 12 0 = 13 := h.2.1 _ (List.mem_of_getElem? (i := 26) rfl)
theorem st_r14_0 {H : jm_H} (h : jm_st H) : jm_R H 14 0 = 15 := h.2.1 _ (List.mem_of_getElem? (i := 27) rfl)
theorem st_r16_0 {H : jm_H} (h : jm_st H) : jm_R H 16 0 = 17 := h.2.1 _ (List.mem_of_getElem? (i := 28) rfl)
theorem st_r18_0 {H : jm_H} (h : jm_st H) : jm_R H 18 0 = 19 := h.2.1 _ (List.mem_of_getElem? (i := 29) rfl)
theorem st_r20_0 {H : jm_H} (h : jm_st H) : jm_R H 20 0 = 21 := h.2.1 _ (List.mem_of_getElem? (i := 30) rfl)
theorem st_r22_0 {H : jm_H} (h : jm_st H) : jm_R H 22 0 = 23 := h.2.1 _ (List.mem_of_getElem? (i := 31) rfl)
theorem st_r25_0 {H : jm_H} (h : jm_st H) : jm_R H 25 0 = 26 := h.2.1 _ (List.mem_of_getElem? (i := 32) rfl)
theorem st_r27_0 {H : jm_H} (h : jm_st H) : jm_R H 27 0 = 28 := h.2.1 _ (List.mem_of_getElem? (i := 33) rfl)
theorem st_r29_0 {H : jm_H} (h : jm_st H) : jm_R H 29 0 = 30 := h.2.1 _ (List.mem_of_getElem? (i := 34) rfl)
theorem st_r31_0 {H : jm_H} (h : jm_st H) : jm_R H 31 0 = 32 := h.2.1 _ (List.mem_of_getElem? (i := 35) rfl)
theorem st_r32_0 {H : jm_H} (h : jm_st H) : jm_R H 32 0 = 33 := h.2.1 _ (List.mem_of_getElem? (i := 36) rfl)
theorem st_r155_0 {H : jm_H} (h : jm_st H) : jm_R H 155 0 = 156 := h.2.1 _ (List.mem_of_getElem? (i := 157) rfl)
theorem st_r155_1 {H : jm_H} (h : jm_st H) : jm_R H 155 1 = 162 := h.2.1 _ (List.mem_of_getElem? (i := 158) rfl)
theorem st_r155_2 {H : jm_H} (h : jm_st H) : jm_R H 155 2 = 168 := h.2.1 _ (List.mem_of_getElem? (i := 159) rfl)
theorem st_r156_0 {H : jm_H} (h : jm_st H) : jm_R H 156 0 = 157 := h.2.1 _ (List.mem_of_getElem? (i := 160) rfl)
theorem st_r156_1 {H : jm_H} (h : jm_st H) : jm_R H 156 1 = 160 := h.2.1 _ (List.mem_of_getElem? (i := 161) rfl)
theorem st_r157_0 {H : jm_H} (h : jm_st H) : jm_R H 157 0 = 158 := h.2.1 _ (List.mem_of_getElem? (i := 162) rfl)
theorem st_r158_0 {H : jm_H} (h : jm_st H) : jm_R H 158 0 = 159 := h.2.1 _ (List.mem_of_getElem? (i := 163) rfl)
theorem st_r160_0 {H : jm_H} (h : jm_st H) : jm_R H 160 0 = 161 := h.2.1 _ (List.mem_of_getElem? (i := 164) rfl)
theorem st_r162_0 {H : jm_H} (h : jm_st H) : jm_R H 162 0 = 163 := h.2.1 _ (List.mem_of_getElem? (i := 165) rfl)
theorem st_r162_1 {H : jm_H} (h : jm_st H) : jm_R H 162 1 = 166 := h.2.1 _ (List.mem_of_getElem? (i := 166) rfl)
theorem st_r163_0 {H : jm_H} (h : jm_st H) : jm_R H 163 0 = 164 := h.2.1 _ (List.mem_of_getElem? (i := 167) rfl)
theorem st_r164_0 {H : jm_H} (h : jm_st H) : jm_R H 164 0 = 165 := h.2.1 _ (List.mem_of_getElem? (i := 168) rfl)
theorem st_r166_0 {H : jm_H} (h : jm_st H) : jm_R H 166 0 = 167 := h.2.1 _ (List.mem_of_getElem? (i := 169) rfl)
theorem st_r168_0 {H : jm_H} (h : jm_st H) : jm_R H 168 0 = 169 := h.2.1 _ (List.mem_of_getElem? (i := 170) rfl)
theorem st_r168_1 {H : jm_H} (h : jm_st H) : jm_R H 168 1 = 172 := h.2.1 _ (List.mem_of_getElem? (i := 171) rfl)
theorem st_r169_0 {H : jm_H} (h : jm_st H) : jm_R H 169 0 = 170 := h.2.1 _ (List.mem_of_getElem? (i := 172) rfl)
theorem st_r170_0 {H : jm_H} (h : jm_st H) : jm_R H 170 0 = 171 := h.2.1 _ (List.mem_of_getElem? (i := 173) rfl)
theorem st_r172_0 {H : jm_H} (h : jm_st H) : jm_R H 172 0 = 173 := h.2.1 _ (List.mem_of_getElem? (i := 174) rfl)
theorem st_r177_0 {H : jm_H} (h : jm_st H) : jm_R H 177 0 = 178 := h.2.1 _ (List.mem_of_getElem? (i := 175) rfl)
theorem st_r177_1 {H : jm_H} (h : jm_st H) : jm_R H 177 1 = 179 := h.2.1 _ (List.mem_of_getElem? (i := 176) rfl)
theorem st_r180_1 {H : jm_H} (h : jm_st H) : jm_R H 180 1 = 181 := h.2.1 _ (List.mem_of_getElem? (i := 177) rfl)
theorem st_r180_3 {H : jm_H} (h : jm_st H) : jm_R H 180 3 = 182 := h.2.1 _ (List.mem_of_getElem? (i := 178) rfl)
theorem st_r180_5 {H : jm_H} (h : jm_st H) : jm_R H 180 5 = 183 := h.2.1 _ (List.mem_of_getElem? (i := 179) rfl)
theorem st_r180_6 {H : jm_H} (h : jm_st H) : jm_R H 180 6 = 184 := h.2.1 _ (List.mem_of_getElem? (i := 180) rfl)
theorem st_r180_7 {H : jm_H} (h : jm_st H) : jm_R H 180 7 = 185 := h.2.1 _ (List.mem_of_getElem? (i := 181) rfl)
theorem st_r180_8 {H : jm_H} (h : jm_st H) : jm_R H 180 8 = 186 := h.2.1 _ (List.mem_of_getElem? (i := 182) rfl)
theorem st_r180_9 {H : jm_H} (h : jm_st H) : jm_R H 180 9 = 187 := h.2.1 _ (List.mem_of_getElem? (i := 183) rfl)
theorem st_r180_17 {H : jm_H} (h : jm_st H) : jm_R H 180 17 = 188 := h.2.1 _ (List.mem_of_getElem? (i := 184) rfl)
theorem st_r180_19 {H : jm_H} (h : jm_st H) : jm_R H 180 19 = 189 := h.2.1 _ (List.mem_of_getElem? (i := 185) rfl)
theorem st_r180_20 {H : jm_H} (h : jm_st H) : jm_R H 180 20 = 190 := h.2.1 _ (List.mem_of_getElem? (i := 186) rfl)
theorem st_r180_22 {H : jm_H} (h : jm_st H) : jm_R H 180 22 = 191 := h.2.1 _ (List.mem_of_getElem? (i := 187) rfl)
theorem st_r180_23 {H : jm_H} (h : jm_st H) : jm_R H 180 23 = 192 := h.2.1 _ (List.mem_of_getElem? (i := 188) rfl)
theorem st_r180_24 {H : jm_H} (h : jm_st H) : jm_R H 180 24 = 193 := h.2.1 _ (List.mem_of_getElem? (i := 189) rfl)
theorem st_r180_26 {H : jm_H} (h : jm_st H) : jm_R H 180 26 = 194 := h.2.1 _ (List.mem_of_getElem? (i := 190) rfl)
theorem st_r180_27 {H : jm_H} (h : jm_st H) : jm_R H 180 27 = 195 := h.2.1 _ (List.mem_of_getElem? (i := 191) rfl)
theorem st_r180_28 {H : jm_H} (h : jm_st H) : jm_R H 180 28 = 196 := h.2.1 _ (List.mem_of_getElem? (i := 192) rfl)
theorem st_r180_32 {H : jm_H} (h : jm_st H) : jm_R H 180 32 = 197 := h.2.1 _ (List.mem_of_getElem? (i := 193) rfl)
theorem st_r180_33 {H : jm_H} (h : jm_st H) : jm_R H 180 33 = 198 := h.2.1 _ (List.mem_of_getElem? (i := 194) rfl)
theorem st_r180_34 {H : jm_H} (h : jm_st H) : jm_R H 180 34 = 199 := h.2.1 _ (List.mem_of_getElem? (i := 195) rfl)
theorem st_r180_35 {H : jm_H} (h : jm_st H) : jm_R H 180 35 = 200 := h.2.1 _ (List.mem_of_getElem? (i := 196) rfl)
theorem st_r180_37 {H : jm_H} (h : jm_st H) : jm_R H 180 37 = 201 := h.2.1 _ (List.mem_of_getElem? (i := 197) rfl)
theorem st_r180_38 {H : jm_H} (h : jm_st H) : jm_R H 180 38 = 202 := h.2.1 _ (List.mem_of_getElem? (i := 198) rfl)
theorem st_r180_41 {H : jm_H} (h : jm_st H) : jm_R H 180 41 = 203 := h.2.1 _ (List.mem_of_getElem? (i := 199) rfl)
theorem st_r180_42 {H : jm_H} (h : jm_st H) : jm_R H 180 42 = 204 := h.2.1 _ (List.mem_of_getElem? (i := 200) rfl)
theorem st_r180_50 {H : jm_H} (h : jm_st H) : jm_R H 180 50 = 205 := h.2.1 _ (List.mem_of_getElem? (i := 201) rfl)
theorem st_r180_51 {H : jm_H} (h : jm_st H) : jm_R H 180 51 = 206 := h.2.1 _ (List.mem_of_getElem? (i := 202) rfl)
theorem st_r180_59 {H : jm_H} (h : jm_st H) : jm_R H 180 59 = 207 := h.2.1 _ (List.mem_of_getElem? (i := 203) rfl)
theorem st_r180_61 {H : jm_H} (h : jm_st H) : jm_R H 180 61 = 208 := h.2.1 _ (List.mem_of_getElem? (i := 204) rfl)
theorem fr_i2_14 {H : jm_H} (h : jm_fresh H) : jm_I H 2 14 = 0 := h.1 _ (List.mem_of_getElem? (i := 0) rfl)
theorem fr_i2_15 {H : jm_H} (h : jm_fresh H) : jm_I H 2 15 = 0 := h.1 _ (List.mem_of_getElem? (i := 1) rfl)
theorem fr_i2_16 {H : jm_H} (h : jm_fresh H) : jm_I H 2 16 = -1 := h.1 _ (List.mem_of_getElem? (i := 2) rfl)
theorem fr_i3_3 {H : jm_H} (h : jm_fresh H) : jm_I H 3 3 = 0 := h.1 _ (List.mem_of_getElem? (i := 3) rfl)
theorem fr_i3_4 {H : jm_H} (h : jm_fresh H) : jm_I H 3 4 = 0 := h.1 _ (List.mem_of_getElem? (i := 4) rfl)
theorem fr_i3_5 {H : jm_H} (h : jm_fresh H) : jm_I H 3 5 = 0 := h.1 _ (List.mem_of_getElem? (i := 5) rfl)
theorem fr_i3_6 {H : jm_H} (h : jm_fresh H) : jm_I H 3 6 = 0 := h.1 _ (List.mem_of_getElem? (i := 6) rfl)
theorem fr_i3_8 {H : jm_H} (h : jm_fresh H) : jm_I H 3 8 = 0 := h.1 _ (List.mem_of_getElem? (i := 7) rfl)
theorem fr_i3_9 {H : jm_H} (h : jm_fresh H) : jm_I H 3 9 = 0 := h.1 _ (List.mem_of_getElem? (i := 8) rfl)
theorem fr_i3_10 {H : jm_H} (h : jm_fresh H) : jm_I H 3 10 = 0 := h.1 _ (List.mem_of_getElem? (i := 9) rfl)
theorem fr_i3_11 {H : jm_H} (h : jm_fresh H) : jm_I H 3 11 = 0 := h.1 _ (List.mem_of_getElem? (i := 10) rfl)
theorem fr_i3_12 {H : jm_H} (h : jm_fresh H) : jm_I H 3 12 = 0 := h.1 _ (List.mem_of_getElem? (i := 11) rfl)
theorem fr_i3_13 {H : jm_H} (h : jm_fresh H) : jm_I H 3 13 = 0 := h.1 _ (List.mem_of_getElem? (i := 12) rfl)
theorem fr_i4_1 {H : jm_H} (h : jm_fresh H) : jm_I H 4 1 = 0 := h.1 _ (List.mem_of_getElem? (i := 13) rfl)
theorem fr_i7_2 {H : jm_H} (h : jm_fresh H) : jm_I H 7 2 = 0 := h.1 _ (List.mem_of_getElem? (i := 14) rfl)
theorem fr_i7_3 {H : jm_H} (h : jm_fresh H) : jm_I H 7 3 = 0 := h.1 _ (List.mem_of_getElem? (i := 15) rfl)
theorem fr_i7_4 {H : jm_H} (h : jm_fresh H) : jm_I H 7 4 = 0 := h.1 _ (List.mem_of_getElem? (i := 16) rfl)
theorem fr_i7_5 {H : jm_H} (h : jm_fresh H) : jm_I H 7 5 = 0 := h.1 _ (List.mem_of_getElem? (i := 17) rfl)
theorem fr_i10_5 {H : jm_H} (h : jm_fresh H) : jm_I H 10 5 = 0 := h.1 _ (List.mem_of_getElem? (i := 18) rfl)
theorem fr_i11_3 {H : jm_H} (h : jm_fresh H) : jm_I H 11 3 = 0 := h.1 _ (List.mem_of_getElem? (i := 19) rfl)
theorem fr_i18_1 {H : jm_H} (h : jm_fresh H) : jm_I H 18 1 = 0 := h.1 _ (List.mem_of_getElem? (i := 44) rfl)
theorem fr_i18_2 {H : jm_H} (h : jm_fresh H) : jm_I H 18 2 = 0 := h.1 _ (List.mem_of_getElem? (i := 45) rfl)
theorem fr_i25_1 {H : jm_H} (h : jm_fresh H) : jm_I H 25 1 = 0 := h.1 _ (List.mem_of_getElem? (i := 62) rfl)
theorem fr_i31_1 {H : jm_H} (h : jm_fresh H) : jm_I H 31 1 = 8 := h.1 _ (List.mem_of_getElem? (i := 79) rfl)
theorem fr_i31_2 {H : jm_H} (h : jm_fresh H) : jm_I H 31 2 = 1 := h.1 _ (List.mem_of_getElem? (i := 80) rfl)
theorem fr_i32_1 {H : jm_H} (h : jm_fresh H) : jm_I H 32 1 = 0 := h.1 _ (List.mem_of_getElem? (i := 81) rfl)
theorem fr_i32_2 {H : jm_H} (h : jm_fresh H) : jm_I H 32 2 = 0 := h.1 _ (List.mem_of_getElem? (i := 82) rfl)
theorem fr_i177_2 {H : jm_H} (h : jm_fresh H) : jm_I H 177 2 = 0 := h.1 _ (List.mem_of_getElem? (i := 305) rfl)
theorem fr_i177_3 {H : jm_H} (h : jm_fresh H) : jm_I H 177 3 = 0 := h.1 _ (List.mem_of_getElem? (i := 306) rfl)
theorem fr_i177_4 {H : jm_H} (h : jm_fresh H) : jm_I H 177 4 = 0 := h.1 _ (List.mem_of_getElem? (i := 307) rfl)
theorem fr_i177_5 {H : jm_H} (h : jm_fresh H) : jm_I H 177 5 = 0 := h.1 _ (List.mem_of_getElem? (i := 308) rfl)
theorem fr_i180_0 {H : jm_H} (h : jm_fresh H) : jm_I H 180 0 = 0 := h.1 _ (List.mem_of_getElem? (i := 309) rfl)
theorem fr_i180_2 {H : jm_H} (h : jm_fresh H) : jm_I H 180 2 = 0 := h.1 _ (List.mem_of_getElem? (i := 310) rfl)
theorem fr_i180_4 {H : jm_H} (h : jm_fresh H) : jm_I H 180 4 = 0 := h.1 _ (List.mem_of_getElem? (i := 311) rfl)
theorem fr_i180_10 {H : jm_H} (h : jm_fresh H) : jm_I H 180 10 = 0 := h.1 _ (List.mem_of_getElem? (i := 312) rfl)
theorem fr_i180_11 {H : jm_H} (h : jm_fresh H) : jm_I H 180 11 = 0 := h.1 _ (List.mem_of_getElem? (i := 313) rfl)
theorem fr_i180_12 {H : jm_H} (h : jm_fresh H) : jm_I H 180 12 = 0 := h.1 _ (List.mem_of_getElem? (i := 314) rfl)
theorem fr_i180_13 {H : jm_H} (h : jm_fresh H) : jm_I H 180 13 = 0 := h.1 _ (List.mem_of_getElem? (i := 315) rfl)
theorem fr_i180_14 {H : jm_H} (h : jm_fresh H) : jm_I H 180 14 = 0 := h.1 _ (List.mem_of_getElem? (i := 316) rfl)
theorem fr_i180_15 {H : jm_H} (h : jm_fresh H) : jm_I H 180 15 = 0 := h.1 _ (List.mem_of_getElem? (i := 317) rfl)
theorem fr_i180_16 {H : jm_H} (h : jm_fresh H) : jm_I H 180 16 = -1 := h.1 _ (List.mem_of_getElem? (i := 318) rfl)
theorem fr_i180_18 {H : jm_H} (h : jm_fresh H) : jm_I H 180 18 = 0 := h.1 _ (List.mem_of_getElem? (i := 319) rfl)
theorem fr_i180_21 {H : jm_H} (h : jm_fresh H) : jm_I H 180 21 = 0 := h.1 _ (List.mem_of_getElem? (i := 320) rfl)
theorem fr_i180_25 {H : jm_H} (h : jm_fresh H) : jm_I H 180 25 = 0 := h.1 _ (List.mem_of_getElem? (i := 321) rfl)
theorem fr_i180_29 {H : jm_H} (h : jm_fresh H) : jm_I H 180 29 = 0 := h.1 _ (List.mem_of_getElem? (i := 322) rfl)
theorem fr_i180_30 {H : jm_H} (h : jm_fresh H) : jm_I H 180 30 = 0 := h.1 _ (List.mem_of_getElem? (i := 323) rfl)
theorem fr_i180_31 {H : jm_H} (h : jm_fresh H) : jm_I H 180 31 = 0 := h.1 _ (List.mem_of_getElem? (i := 324) rfl)
theorem fr_i180_36 {H : jm_H} (h : jm_fresh H) : jm_I H 180 36 = 0 := h.1 _ (List.mem_of_getElem? (i := 325) rfl)
theorem fr_i180_39 {H : jm_H} (h : jm_fresh H) : jm_I H 180 39 = 0 := h.1 _ (List.mem_of_getElem? (i := 326) rfl)
theorem fr_i180_40 {H : jm_H} (h : jm_fresh H) : jm_I H 180 40 = 0 := h.1 _ (List.mem_of_getElem? (i := 327) rfl)
theorem fr_i180_43 {H : jm_H} (h : jm_fresh H) : jm_I H 180 43 = 0 := h.1 _ (List.mem_of_getElem? (i := 328) rfl)
theorem fr_i180_44 {H : jm_H} (h : jm_fresh H) : jm_I H 180 44 = 0 := h.1 _ (List.mem_of_getElem? (i := 329) rfl)
theorem fr_i180_45 {H : jm_H} (h : jm_fresh H) : jm_I H 180 45 = 0 := h.1 _ (List.mem_of_getElem? (i := 330) rfl)
theorem fr_i180_46 {H : jm_H} (h : jm_fresh H) : jm_I H 180 46 = 0 := h.1 _ (List.mem_of_getElem? (i := 331) rfl)
theorem fr_i180_47 {H : jm_H} (h : jm_fresh H) : jm_I H 180 47 = 0 := h.1 _ (List.mem_of_getElem? (i := 332) rfl)
theorem fr_i180_48 {H : jm_H} (h : jm_fresh H) : jm_I H 180 48 = 0 := h.1 _ (List.mem_of_getElem? (i := 333) rfl)
theorem fr_i180_49 {H : jm_H} (h : jm_fresh H) : jm_I H 180 49 = 0 := h.1 _ (List.mem_of_getElem? (i := 334) rfl)
theorem fr_i180_52 {H : jm_H} (h : jm_fresh H) : jm_I H 180 52 = 0 := h.1 _ (List.mem_of_getElem? (i := 335) rfl)
theorem fr_i180_53 {H : jm_H} (h : jm_fresh H) : jm_I H 180 53 = 0 := h.1 _ (List.mem_of_getElem? (i := 336) rfl)
theorem fr_i180_55 {H : jm_H} (h : jm_fresh H) : jm_I H 180 55 = 0 := h.1 _ (List.mem_of_getElem? (i := 337) rfl)
theorem fr_i180_57 {H : jm_H} (h : jm_fresh H) : jm_I H 180 57 = 0 := h.1 _ (List.mem_of_getElem? (i := 338) rfl)
theorem fr_i180_58 {H : jm_H} (h : jm_fresh H) : jm_I H 180 58 = 0 := h.1 _ (List.mem_of_getElem? (i := 339) rfl)
theorem fr_i180_60 {H : jm_H} (h : jm_fresh H) : jm_I H 180 60 = 0 := h.1 _ (List.mem_of_getElem? (i := 340) rfl)
theorem fr_i188_0 {H : jm_H} (h : jm_fresh H) : jm_I H 188 0 = 8 := h.1 _ (List.mem_of_getElem? (i := 341) rfl)
theorem fr_i188_1 {H : jm_H} (h : jm_fresh H) : jm_I H 188 1 = 1 := h.1 _ (List.mem_of_getElem? (i := 342) rfl)
theorem fr_i188_2 {H : jm_H} (h : jm_fresh H) : jm_I H 188 2 = 0 := h.1 _ (List.mem_of_getElem? (i := 343) rfl)
theorem fr_i188_3 {H : jm_H} (h : jm_fresh H) : jm_I H 188 3 = 0 := h.1 _ (List.mem_of_getElem? (i := 344) rfl)
theorem fr_i188_4 {H : jm_H} (h : jm_fresh H) : jm_I H 188 4 = 0 := h.1 _ (List.mem_of_getElem? (i := 345) rfl)
theorem fr_i188_5 {H : jm_H} (h : jm_fresh H) : jm_I H 188 5 = 0 := h.1 _ (List.mem_of_getElem? (i := 346) rfl)
theorem fr_i188_6 {H : jm_H} (h : jm_fresh H) : jm_I H 188 6 = 0 := h.1 _ (List.mem_of_getElem? (i := 347) rfl)
theorem fr_i188_7 {H : jm_H} (h : jm_fresh H) : jm_I H 188 7 = 0 := h.1 _ (List.mem_of_getElem? (i := 348) rfl)
theorem fr_i188_8 {H : jm_H} (h : jm_fresh H) : jm_I H 188 8 = 0 := h.1 _ (List.mem_of_getElem? (i := 349) rfl)
theorem fr_i188_9 {H : jm_H} (h : jm_fresh H) : jm_I H 188 9 = 0 := h.1 _ (List.mem_of_getElem? (i := 350) rfl)
theorem fr_i188_10 {H : jm_H} (h : jm_fresh H) : jm_I H 188 10 = 0 := h.1 _ (List.mem_of_getElem? (i := 351) rfl)
theorem fr_i188_11 {H : jm_H} (h : jm_fresh H) : jm_I H 188 11 = 0 := h.1 _ (List.mem_of_getElem? (i := 352) rfl)
theorem fr_i188_12 {H : jm_H} (h : jm_fresh H) : jm_I H 188 12 = 0 := h.1 _ (List.mem_of_getElem? (i := 353) rfl)
theorem fr_i188_13 {H : jm_H} (h : jm_fresh H) : jm_I H 188 13 = 0 := h.1 _ (List.mem_of_getElem? (i := 354) rfl)
theorem fr_i188_14 {H : jm_H} (h : jm_fresh H) : jm_I H 188 14 = 0 := h.1 _ (List.mem_of_getElem? (i := 355) rfl)
theorem fr_i188_15 {H : jm_H} (h : jm_fresh H) : jm_I H 188 15 = 0 := h.1 _ (List.mem_of_getElem? (i := 356) rfl)
theorem fr_i188_16 {H : jm_H} (h : jm_fresh H) : jm_I H 188 16 = 0 := h.1 _ (List.mem_of_getElem? (i := 357) rfl)
theorem fr_i188_17 {H : jm_H} (h : jm_fresh H) : jm_I H 188 17 = 0 := h.1 _ (List.mem_of_getElem? (i := 358) rfl)
theorem fr_i188_18 {H : jm_H} (h : jm_fresh H) : jm_I H 188 18 = 0 := h.1 _ (List.mem_of_getElem? (i := 359) rfl)
theorem fr_i188_19 {H : jm_H} (h : jm_fresh H) : jm_I H 188 19 = 0 := h.1 _ (List.mem_of_getElem? (i := 360) rfl)
theorem fr_i204_0 {H : jm_H} (h : jm_fresh H) : jm_I H 204 0 = 0 := h.1 _ (List.mem_of_getElem? (i := 403) rfl)
theorem fr_i204_1 {H : jm_H} (h : jm_fresh H) : jm_I H 204 1 = 0 := h.1 _ (List.mem_of_getElem? (i := 404) rfl)
theorem fr_i204_2 {H : jm_H} (h : jm_fresh H) : jm_I H 204 2 = 0 := h.1 _ (List.mem_of_getElem? (i := 405) rfl)
theorem fr_l33_0 {H : jm_H} (h : jm_fresh H) : jm_L H 33 0 = 0 := h.2.1 _ (List.mem_of_getElem? (i := 23) rfl)
theorem fr_l33_1 {H : jm_H} (h : jm_fresh H) : jm_L H 33 1 = 0 := h.2.1 _ (List.mem_of_getElem? (i := 24) rfl)
theorem fr_l33_2 {H : jm_H} (h : jm_fresh H) : jm_L H 33 2 = 0 := h.2.1 _ (List.mem_of_getElem? (i := 25) rfl)
theorem fr_l33_3 {H : jm_H} (h : jm_fresh H) : jm_L H 33 3 = 0 := h.2.1 _ (List.mem_of_getElem? (i := 26) rfl)
theorem fr_l33_4 {H : jm_H} (h : jm_fresh H) : jm_L H 33 4 = 0 := h.2.1 _ (List.mem_of_getElem? (i := 27) rfl)
theorem fr_l33_5 {H : jm_H} (h : jm_fresh H) : jm_L H 33 5 = 0 := h.2.1 _ (List.mem_of_getElem? (i := 28) rfl)
theorem fr_l33_6 {H : jm_H} (h : jm_fresh H) : jm_L H 33 6 = 0 := h.2.1 _ (List.mem_of_getElem? (i := 29) rfl)
theorem fr_l187_0 {H : jm_H} (h : jm_fresh H) : jm_L H 187 0 = 381245 := h.2.1 _ (List.mem_of_getElem? (i := 333) rfl)
theorem fr_l187_1 {H : jm_H} (h : jm_fresh H) : jm_L H 187 1 = 8903 := h.2.1 _ (List.mem_of_getElem? (i := 334) rfl)
theorem fr_l187_2 {H : jm_H} (h : jm_fresh H) : jm_L H 187 2 = 365654 := h.2.1 _ (List.mem_of_getElem? (i := 335) rfl)
theorem fr_l187_3 {H : jm_H} (h : jm_fresh H) : jm_L H 187 3 = 14431 := h.2.1 _ (List.mem_of_getElem? (i := 336) rfl)
