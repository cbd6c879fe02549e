/-! ===== the rows of the tables are checked by a program that is proved right ===== -/
def by_fl_tab : List (List (Nat × Nat)) := [
  [(11, 3), (15, 4)],
  [(11, 1039), (17, 1047), (20, 1051), (24, 1059), (27, 1067), (30, 1075), (33, 1079), (36, 1027), (40, 1031), (48, 1068), (52, 1032), (55, 1040), (58, 1052), (61, 1060), (64, 10248), (88, 10255), (102, 10261), (172, 1080), (175, 1084)],
  [(13, 2063), (18, 2067), (22, 2071), (25, 2075), (28, 2083), (33, 2087), (36, 2091), (39, 2051), (46, 2052), (50, 2056), (53, 2076)],
  [(13, 3103), (16, 3107), (20, 3075), (24, 3079), (28, 3083), (32, 3087), (36, 3091), (40, 3092), (44, 3096), (96, 9226), (102, 9228), (133, 1084), (178, 7191)],
  [(13, 4119), (16, 4127), (19, 4131), (24, 4135), (28, 4139), (31, 4143), (35, 4099), (39, 4103), (43, 4107), (47, 4111), (51, 4112), (55, 4120), (76, 2052), (98, 3103), (117, 1032), (141, 3107)],
  [(11, 5139), (15, 5143), (18, 5147), (23, 5151), (26, 5123), (30, 5127), (34, 5131), (38, 5132), (78, 3103), (99, 3107), (102, 3092)],
  [(12, 6151), (16, 6155), (20, 6159), (24, 6167), (27, 6184), (31, 6207), (35, 6147), (39, 6200), (42, 6182), (46, 6194), (49, 6196), (63, 10244), (68, 6168), (75, 6160), (81, 6172), (88, 10243), (114, 6188), (140, 6176)],
  [(11, 7187), (15, 7191), (21, 7199), (24, 7211), (27, 7219), (30, 7227), (33, 7171), (37, 7175), (41, 7179), (45, 7180), (49, 7192), (52, 7200), (55, 7204), (58, 7212), (97, 7220), (100, 10248), (124, 10255)],
  [(13, 8211), (16, 8215), (21, 8219), (27, 8223), (30, 8227), (33, 8239), (36, 8247), (39, 8251), (42, 8255), (45, 8259), (49, 8263), (52, 8267), (55, 8271), (58, 8195), (62, 8199), (66, 8203), (73, 8204), (77, 8228), (80, 8232), (164, 8240), (173, 3092), (178, 3103), (201, 3107)],
  [(11, 9243), (17, 9247), (23, 9259), (26, 9263), (29, 9267), (32, 9275), (35, 9279), (38, 9283), (41, 9287), (44, 9219), (48, 9223), (55, 9226), (59, 9228), (63, 9268), (70, 10244), (79, 9232), (82, 9236), (118, 9252), (125, 9248), (194, 1040)],
  [(11, 10243), (15, 10255), (19, 10244), (23, 10248), (26, 10256), (56, 10261)],
  [(10, 11267), (16, 11271), (22, 11275), (31, 11279), (40, 11283), (49, 11287), (58, 11291), (67, 11295), (76, 11299), (85, 11303), (92, 11307), (101, 11311), (105, 10244), (129, 6182), (147, 6160), (191, 1032), (194, 1040), (197, 1052), (200, 1060), (203, 1068), (206, 3092), (209, 8204), (210, 4112), (211, 4120), (214, 5132), (215, 7180), (218, 7192), (221, 7200), (222, 2056), (225, 2076), (228, 6172), (231, 6168), (241, 1084), (257, 9228), (276, 3), (290, 4), (297, 8228), (300, 8232), (303, 8239), (312, 4127), (322, 7191), (337, 7211), (350, 2052), (364, 6207), (367, 6200)],
  [(1, 12288), (13, 12295), (18, 12303), (21, 12312), (25, 12323), (28, 12335), (32, 12339), (35, 12359), (39, 12363), (42, 12367), (45, 12391), (48, 12395), (52, 12403), (55, 12407), (58, 12411), (61, 12415), (64, 12419), (67, 12427), (70, 12431), (73, 12435), (76, 12439), (79, 12447), (82, 12451), (85, 12455), (88, 12459), (91, 12467), (94, 12471), (97, 12475), (100, 12479), (103, 12499), (106, 12503), (109, 12507), (112, 12511), (115, 12515), (118, 12519), (121, 12527), (124, 12531), (127, 12535), (130, 12539), (133, 12543), (136, 12547), (139, 12551), (142, 12555), (145, 12559), (148, 12563), (151, 12567), (154, 12571), (157, 12575), (160, 12579), (163, 12583), (166, 12587), (169, 12591), (172, 12595), (175, 12599), (178, 12603), (181, 12607), (184, 12611), (187, 12615), (190, 12619), (193, 12643), (196, 12647), (199, 12651), (202, 12659), (205, 12667), (208, 12671), (211, 12675), (214, 12679), (217, 12683), (220, 12687), (223, 12691), (226, 12699), (229, 12703), (232, 12707), (235, 12711), (238, 12715), (241, 12723), (244, 12727), (247, 12731), (250, 12739), (253, 12743), (256, 12751), (259, 12755), (262, 12759), (265, 12763), (268, 12771), (271, 12775), (274, 12779), (277, 12783), (280, 12787), (283, 12795), (286, 12799), (289, 12803), (292, 12811), (295, 12815), (298, 12819), (301, 12823), (304, 12831), (307, 12835), (310, 12839), (313, 12843), (316, 12859), (319, 12863), (322, 12867), (325, 12871), (328, 12879), (331, 12883), (334, 12887), (337, 12891), (340, 12895), (343, 12907), (346, 12911), (349, 12915), (352, 12919), (355, 12923), (358, 12927), (361, 12931), (364, 12932), (367, 12939), (370, 12943), (373, 12947), (376, 12951), (379, 12959), (382, 12963), (385, 12967), (388, 12971), (391, 12975), (394, 12979), (397, 12983), (400, 12987), (403, 12991), (406, 12995), (409, 12999), (412, 13003), (415, 13007), (425, 12350), (429, 12352), (440, 12340), (443, 12346), (446, 12324), (449, 12304), (452, 12310), (455, 12296), (466, 12328), (499, 12316), (502, 12372), (505, 12368), (524, 12376), (527, 12380), (530, 12384), (533, 12396), (536, 12420), (539, 12440), (542, 12460), (545, 12482), (548, 12484), (551, 12488), (554, 12492), (557, 12520), (560, 12620), (563, 12624), (566, 12628), (569, 12632), (572, 12636), (575, 12652), (578, 12660), (581, 12692), (584, 12716), (587, 12732), (590, 12744), (593, 12764), (596, 12788), (599, 12804), (602, 12824), (619, 12844), (622, 12850), (698, 12852), (717, 12896), (720, 12900), (723, 12872), (839, 12952)],
  [],
  [],
  [],
  []]
def by_fl (i : Nat) : List (Nat × Nat) := (ev_nth by_fl_tab i).getD []
def by_lk_tab : List (List (Nat × Nat)) := [
  [(28, 1), (32, 224), (38, 7), (41, 8), (45, 9), (48, 532)],
  [(44, 12), (69, 225), (75, 226), (79, 14), (83, 123), (91, 15), (95, 22), (99, 16), (106, 23), (110, 17), (113, 20), (122, 18), (126, 534), (132, 535), (135, 19), (138, 21), (141, 24), (146, 31), (149, 32), (152, 30), (155, 28), (158, 35), (162, 41), (169, 37), (178, 38)],
  [(43, 40), (56, 537), (62, 43), (70, 535), (76, 123)],
  [(51, 148), (58, 123), (64, 55), (68, 42), (74, 41), (78, 52), (82, 51), (85, 28), (90, 59), (93, 64), (105, 531), (111, 27), (114, 56), (117, 69), (120, 72), (123, 73), (126, 149), (129, 37), (136, 30), (139, 159), (143, 71), (146, 53), (149, 2), (155, 3), (158, 78), (162, 62), (166, 152), (169, 153), (172, 57), (175, 58), (182, 535)],
  [(62, 27), (66, 123), (72, 89), (81, 90), (85, 86), (88, 87), (91, 51), (94, 52), (99, 70), (103, 55), (107, 56), (114, 98), (120, 99), (124, 100), (130, 535), (135, 104), (138, 105), (144, 537), (150, 83)],
  [(46, 27), (52, 123), (58, 537), (64, 113), (68, 51), (73, 110), (74, 52), (81, 74), (84, 114), (88, 57), (92, 117), (95, 55)],
  [(59, 126), (71, 127), (78, 124), (84, 125), (91, 129), (95, 130), (98, 535), (104, 538), (110, 132), (124, 133), (128, 134), (131, 138), (134, 137), (137, 141), (143, 144), (146, 223)],
  [(61, 536), (71, 147), (75, 28), (80, 123), (86, 148), (90, 152), (93, 153), (105, 225), (110, 226), (114, 156), (127, 157), (131, 158), (135, 41), (141, 160), (144, 164)],
  [(70, 167), (83, 537), (93, 123), (99, 27), (103, 28), (106, 168), (109, 30), (113, 179), (117, 180), (120, 176), (123, 178), (127, 177), (130, 31), (133, 533), (138, 32), (144, 181), (148, 182), (158, 184), (161, 187), (167, 188), (170, 190), (174, 52), (179, 69), (182, 186), (185, 185), (188, 189), (191, 55), (194, 191), (204, 83)],
  [(52, 196), (73, 123), (85, 198), (89, 199), (92, 202), (95, 205), (98, 207), (101, 213), (105, 224), (109, 535), (115, 534), (121, 200), (128, 201), (132, 537), (138, 203), (141, 204), (145, 206), (148, 208), (151, 209), (155, 210), (158, 212), (165, 211), (169, 531), (174, 214), (177, 216), (180, 22), (185, 215), (188, 217), (191, 24), (197, 25), (200, 218), (203, 26)],
  [(29, 224), (45, 227), (49, 228), (53, 229)],
  [(9, 221), (21, 0), (28, 121), (37, 39), (46, 10), (55, 195), (64, 145), (73, 49), (82, 108), (91, 166), (98, 84), (120, 308), (133, 128), (137, 131), (141, 303), (144, 139), (150, 140), (153, 137), (158, 143), (162, 302), (166, 141), (169, 142), (172, 136), (234, 122), (238, 36), (244, 22), (248, 28), (251, 169), (254, 29), (260, 219), (263, 220), (266, 51), (269, 68), (272, 75), (280, 4), (283, 6), (287, 5), (293, 168), (294, 170), (306, 171), (309, 87), (316, 97), (321, 147), (328, 154), (331, 71), (334, 160), (340, 110), (341, 112), (344, 44), (347, 45), (353, 165), (356, 106), (359, 107), (362, 194), (363, 120), (369, 13), (372, 33), (376, 34), (379, 197), (383, 54), (386, 63), (389, 65), (392, 66), (395, 67), (398, 172), (401, 173), (404, 174), (407, 175), (410, 183), (413, 192), (416, 88), (419, 91), (422, 92), (425, 93), (428, 94), (431, 95), (434, 76), (437, 79), (440, 80), (443, 115), (446, 77), (449, 116), (452, 305), (455, 150), (458, 151), (461, 155), (464, 81), (467, 161), (470, 162), (473, 82), (476, 111), (478, 47), (481, 304), (484, 148), (487, 46), (491, 306), (494, 40), (497, 11), (498, 196), (499, 146), (500, 50), (501, 109), (502, 167), (503, 85), (504, 48), (507, 60), (510, 123), (513, 96), (516, 193), (517, 118), (518, 55), (523, 41), (526, 101), (529, 535), (534, 307), (537, 102), (540, 103), (543, 61), (546, 58), (549, 163), (552, 119)],
  [(418, 421), (422, 339), (432, 313), (436, 314), (458, 530), (462, 317), (469, 318), (472, 319), (475, 320), (479, 321), (483, 311), (488, 325), (491, 326), (495, 328), (508, 332), (511, 331), (514, 333), (518, 327), (521, 334), (605, 350), (609, 352), (612, 351), (616, 353), (625, 355), (632, 356), (635, 357), (638, 362), (643, 360), (646, 361), (650, 363), (654, 364), (657, 358), (661, 359), (664, 365), (668, 366), (672, 367), (675, 368), (678, 369), (681, 316), (684, 315), (687, 341), (690, 340), (694, 322), (701, 375), (704, 376), (708, 380), (711, 381), (714, 348), (726, 385), (729, 389), (732, 388), (735, 387), (738, 390), (741, 392), (744, 395), (748, 393), (751, 394), (754, 396), (757, 383), (760, 384), (763, 386), (766, 391), (769, 397), (772, 347), (775, 342), (778, 405), (781, 406), (784, 343), (787, 416), (790, 415), (793, 417), (796, 418), (799, 420), (802, 423), (805, 425), (808, 426), (811, 427), (814, 422), (817, 428), (820, 344), (823, 435), (826, 438), (829, 439), (833, 440), (836, 441), (842, 447), (845, 445), (848, 446), (851, 448), (854, 453), (857, 457), (860, 345), (863, 464), (866, 472), (870, 474), (873, 475), (876, 476), (879, 354), (882, 346), (885, 484), (889, 488), (892, 477), (900, 499), (904, 525), (907, 523), (910, 524), (913, 370), (916, 372), (920, 398), (923, 403), (927, 407), (930, 409), (933, 411), (936, 413), (939, 431), (942, 433), (945, 436), (948, 442), (951, 449), (954, 455), (957, 458), (960, 460), (963, 462), (966, 465), (969, 467), (972, 469), (975, 478), (979, 480), (982, 482), (985, 485), (988, 489), (991, 491), (994, 493), (997, 495), (1000, 500), (1003, 503), (1006, 505), (1009, 507), (1012, 510), (1015, 512), (1018, 515), (1021, 517), (1024, 520), (1027, 526)],
  [(31, 230), (34, 312), (40, 323), (41, 310), (48, 324), (49, 231), (52, 329), (53, 232), (56, 330), (57, 233), (60, 335), (61, 234), (64, 336), (68, 337), (72, 338), (73, 235), (77, 349), (78, 236), (81, 371), (82, 237), (86, 373), (87, 238), (90, 374), (91, 239), (94, 377), (95, 240), (98, 378), (99, 241), (102, 379), (103, 242), (106, 382), (107, 243), (110, 399), (111, 244), (114, 400), (115, 245), (118, 401), (119, 246), (122, 402), (123, 247), (127, 404), (128, 248), (131, 408), (132, 249), (135, 410), (136, 250), (139, 412), (140, 251), (143, 414), (144, 252), (147, 419), (148, 253), (151, 424), (152, 254), (155, 429), (156, 255), (159, 430), (160, 256), (163, 432), (164, 257), (167, 434), (168, 258), (171, 437), (172, 259), (175, 443), (176, 260), (179, 444), (180, 261), (183, 450), (184, 262), (187, 451), (188, 263), (191, 452), (192, 264), (195, 454), (196, 265), (199, 456), (200, 266), (203, 459), (204, 267), (207, 461), (208, 268), (211, 463), (212, 269), (215, 466), (216, 270), (219, 468), (220, 271), (223, 470), (224, 272), (227, 471), (228, 273), (231, 473), (232, 274), (235, 479), (236, 275), (239, 481), (240, 276), (243, 483), (244, 277), (247, 486), (248, 278), (251, 487), (252, 279), (255, 490), (256, 280), (259, 492), (260, 281), (263, 494), (264, 282), (267, 496), (268, 283), (272, 497), (273, 284), (276, 498), (277, 285), (280, 501), (281, 286), (284, 502), (285, 287), (288, 504), (289, 288), (292, 506), (293, 289), (296, 508), (297, 290), (300, 509), (301, 291), (304, 511), (305, 292), (308, 513), (309, 293), (312, 514), (313, 294), (316, 516), (317, 295), (320, 518), (321, 296), (324, 519), (325, 297), (329, 521), (330, 298), (333, 522), (334, 299), (337, 527), (338, 300), (341, 528), (342, 301), (345, 529)],
  [],
  [],
  []]
def by_lk (i : Nat) : List (Nat × Nat) := (ev_nth by_lk_tab i).getD []
def by_nst_tab : List (List (Nat × Nat)) := [
  [],
  [(118, 308)],
  [(66, 308)],
  [(47, 308)],
  [(58, 308), (110, 309)],
  [(42, 308)],
  [(52, 308)],
  [(67, 308)],
  [(89, 308), (197, 309)],
  [(66, 308)],
  [],
  [],
  [],
  [],
  [],
  [],
  []]
def by_nst (i : Nat) : List (Nat × Nat) := (ev_nth by_nst_tab i).getD []
def by_cst_tab : List (List (Nat × Int)) := [
  [],
  [(117, 99999), (168, 100000)],
  [(82, 1000000000)],
  [(57, 100000), (165, 1000000)],
  [(129, 2147483647)],
  [(98, 1103515245)],
  [(11, 38400), (23, 37200), (123, (-2048144777))],
  [(89, 1000000), (134, 100000)],
  [(143, 2147483647)],
  [],
  [],
  [(157, 37200), (522, 1000000000)],
  [(17, 38656), (24, 37200), (487, (-2048144777)), (642, 99999), (693, 100000), (832, 100000000), (869, 1000000), (888, 1103515245), (903, 1000000000)],
  [],
  [(265, 1431655765), (266, 858993459), (267, 252645135)],
  [],
  []]
def by_cst (i : Nat) : List (Nat × Int) := (ev_nth by_cst_tab i).getD []
def by_csl_tab : List (List (Nat × Int)) := [
  [],
  [(144, 27)],
  [],
  [],
  [],
  [],
  [],
  [],
  [],
  [],
  [(60, 27), (62, 65)],
  [(319, (-105)), (326, (-101))],
  [(628, 27), (630, 65), (896, (-105)), (898, (-101))],
  [],
  [],
  [],
  []]
def by_csl (i : Nat) : List (Nat × Int) := (ev_nth by_csl_tab i).getD []
def by_clk_tab : List (List (Nat × Nat)) := [
  [],
  [],
  [],
  [],
  [],
  [],
  [],
  [],
  [],
  [],
  [],
  [(7, 10), (19, 0), (26, 6), (35, 2), (44, 1), (53, 9), (62, 7), (71, 3), (80, 5), (89, 8), (96, 4)],
  [],
  [(8, 11), (32, 12)],
  [],
  [],
  []]
def by_clk (i : Nat) : List (Nat × Nat) := (ev_nth by_clk_tab i).getD []
def by_clm_tab : List (List (Nat)) := [
  [],
  [15],
  [11],
  [11],
  [11],
  [21],
  [],
  [19],
  [11],
  [21],
  [],
  [],
  [],
  [],
  [],
  [],
  []]
def by_clm (i : Nat) : List (Nat) := (ev_nth by_clm_tab i).getD []
def by_sl_tab : List (List (Nat × Nat)) := [
  [(19, 1002), (22, 1001), (25, 1000)],
  [],
  [],
  [],
  [],
  [],
  [(56, 1003)],
  [],
  [],
  [(162, 1004)],
  [],
  [],
  [],
  [],
  [],
  [],
  []]
def by_sl (i : Nat) : List (Nat × Nat) := (ev_nth by_sl_tab i).getD []
def flg_tab : List (List Nat) := [
  [3, 1, 2, 2, 2, 2, 2, 1, 2, 2, 3, 2, 2, 2, 2, 2, 2, 2, 2, 1, 2, 2, 2, 2],
  [2, 2, 2, 2, 2, 2, 2, 2, 2, 2, 2, 2, 2, 2, 2, 3, 2, 2, 2, 2, 2, 2, 2, 2],
  [2, 3, 2, 2, 2, 2, 2, 2, 2, 2, 2, 2, 2, 2, 2, 2, 2, 2, 2, 2, 2, 2, 2, 2],
  [2, 2, 2, 2, 2, 2, 2, 2, 2, 2, 2, 2, 3, 2, 2, 2, 2, 2, 2, 2, 2, 2, 2, 2],
  [2, 2, 2, 2, 2, 2, 2, 2, 2, 2, 2, 2, 3, 2, 2, 2, 2, 2, 2, 2, 2, 1, 2, 2],
  [2, 3, 2, 2, 2, 2, 1, 1, 2, 2, 2, 2, 1, 1, 2, 0, 2, 2, 2, 2, 2, 2, 2, 2],
  [2, 3, 2, 2, 2, 2, 2, 2, 2, 2, 2, 2, 2, 2, 2, 2, 2, 2, 2, 2, 2, 2, 3, 2],
  [2, 2, 2, 2, 2, 2, 2, 2, 2, 2, 2, 2, 2, 2, 2, 2, 2, 2, 2, 2, 2, 2, 2, 2],
  [2, 2, 2, 3, 2, 2, 2, 2, 2, 2, 2, 2, 2, 2, 2, 2, 2, 2, 2, 2, 1, 2, 2, 2],
  [2, 2, 2, 2, 2, 3, 0, 2, 2, 2, 2, 2, 2, 2, 3, 2, 2, 2, 2, 2, 2, 2, 2, 2],
  [2, 2, 2, 2, 2, 2, 2, 2, 2, 2, 2, 2, 2, 2, 2, 2, 2, 2, 2, 2, 2, 2, 2, 2],
  [2, 2, 2, 2, 2, 2, 2, 2, 2, 2, 2, 2, 2, 2, 2, 2, 2, 2, 2, 2, 2, 2, 2, 2],
  [2, 2, 2, 2, 2, 2, 2, 2, 2, 2, 2, 2, 2, 2, 2, 2, 2, 2, 2, 2, 1, 1, 2, 1],
  [3, 1, 1, 2, 2, 2, 2, 2, 2, 2, 2, 2, 2, 2, 1, 2, 2, 2, 2, 2, 2, 2, 2, 2],
  [2, 2, 2, 2, 2, 2, 2, 2, 2, 2, 2, 2, 2, 2, 2, 2, 2, 2, 2, 2, 2, 2, 2, 2],
  [2, 2, 1, 2, 2, 2, 2, 2, 2, 2, 2, 2, 2, 2, 2, 2, 2, 2, 2, 2, 2, 2, 2, 2],
  [2, 2, 2, 2, 2, 2, 2, 2, 2, 2, 2, 2, 2, 2, 2, 2, 2, 2, 2, 2, 2, 2, 2, 2],
  [2, 2, 2, 2, 2, 2, 2, 2, 2, 2, 2, 2, 1, 1, 2, 2, 2, 2, 2, 2, 2, 2, 2, 2],
  [2, 2, 2, 2, 2, 2, 1, 2, 2, 2, 2, 2, 2, 2, 2, 2, 2, 2, 2, 2, 2, 2, 2, 2],
  [2, 1, 2, 2, 2, 2, 2, 2, 2, 2, 2, 2, 2, 2, 2, 2, 2, 2, 2, 2, 2, 2, 2, 2],
  [2, 2, 2, 2, 2, 2, 2, 2, 1, 2, 2, 2, 2, 2, 2, 2, 2, 2, 2, 2, 2, 2, 2, 2],
  [2, 2, 2, 2, 2, 2, 2, 2, 2, 2, 2, 2, 2, 2, 2, 2, 2, 2, 2, 2, 2, 2, 2, 2],
  [2, 2, 2, 1, 1, 1, 1, 1, 1, 1, 1, 0]]
def flgT (m : Nat) : Nat := match ev_nth flg_tab (m / 24) with
  | some r => (ev_nth r (m % 24)).getD 0
  | none => 0
set_option maxRecDepth 20000 in
theorem fd_own0 : ∀ q ∈ fdX0, q.1 = cnm 0 := (List.forall_mem_cons.mpr ⟨rfl, (List.forall_mem_cons.mpr ⟨rfl, (fun _ h => absurd h List.not_mem_nil)⟩)⟩)
set_option maxRecDepth 20000 in
theorem fd_own1 : ∀ q ∈ fdX1, q.1 = cnm 1 := (List.forall_mem_cons.mpr ⟨rfl, (List.forall_mem_cons.mpr ⟨rfl, (List.forall_mem_cons.mpr ⟨rfl, (List.forall_mem_cons.mpr ⟨rfl, (List.forall_mem_cons.mpr ⟨rfl, (List.forall_mem_cons.mpr ⟨rfl, (List.forall_mem_cons.mpr ⟨rfl, (List.forall_mem_cons.mpr ⟨rfl, (List.forall_mem_cons.mpr ⟨rfl, (List.forall_mem_cons.mpr ⟨rfl, (List.forall_mem_cons.mpr ⟨rfl, (List.forall_mem_cons.mpr ⟨rfl, (List.forall_mem_cons.mpr ⟨rfl, (List.forall_mem_cons.mpr ⟨rfl, (List.forall_mem_cons.mpr ⟨rfl, (List.forall_mem_cons.mpr ⟨rfl, (fun _ h => absurd h List.not_mem_nil)⟩)⟩)⟩)⟩)⟩)⟩)⟩)⟩)⟩)⟩)⟩)⟩)⟩)⟩)⟩)⟩)
set_option maxRecDepth 20000 in
theorem fd_own2 : ∀ q ∈ fdX2, q.1 = cnm 2 := (List.forall_mem_cons.mpr ⟨rfl, (List.forall_mem_cons.mpr ⟨rfl, (List.forall_mem_cons.mpr ⟨rfl, (List.forall_mem_cons.mpr ⟨rfl, (List.forall_mem_cons.mpr ⟨rfl, (List.forall_mem_cons.mpr ⟨rfl, (List.forall_mem_cons.mpr ⟨rfl, (List.forall_mem_cons.mpr ⟨rfl, (List.forall_mem_cons.mpr ⟨rfl, (List.forall_mem_cons.mpr ⟨rfl, (List.forall_mem_cons.mpr ⟨rfl, (fun _ h => absurd h List.not_mem_nil)⟩)⟩)⟩)⟩)⟩)⟩)⟩)⟩)⟩)⟩)⟩)
set_option maxRecDepth 20000 in
theorem fd_own3 : ∀ q ∈ fdX3, q.1 = cnm 3 := (List.forall_mem_cons.mpr ⟨rfl, (List.forall_mem_cons.mpr ⟨rfl, (List.forall_mem_cons.mpr ⟨rfl, (List.forall_mem_cons.mpr ⟨rfl, (List.forall_mem_cons.mpr ⟨rfl, (List.forall_mem_cons.mpr ⟨rfl, (List.forall_mem_cons.mpr ⟨rfl, (List.forall_mem_cons.mpr ⟨rfl, (List.forall_mem_cons.mpr ⟨rfl, (fun _ h => absurd h List.not_mem_nil)⟩)⟩)⟩)⟩)⟩)⟩)⟩)⟩)⟩)
set_option maxRecDepth 20000 in
theorem fd_own4 : ∀ q ∈ fdX4, q.1 = cnm 4 := (List.forall_mem_cons.mpr ⟨rfl, (List.forall_mem_cons.mpr ⟨rfl, (List.forall_mem_cons.mpr ⟨rfl, (List.forall_mem_cons.mpr ⟨rfl, (List.forall_mem_cons.mpr ⟨rfl, (List.forall_mem_cons.mpr ⟨rfl, (List.forall_mem_cons.mpr ⟨rfl, (List.forall_mem_cons.mpr ⟨rfl, (List.forall_mem_cons.mpr ⟨rfl, (List.forall_mem_cons.mpr ⟨rfl, (List.forall_mem_cons.mpr ⟨rfl, (List.forall_mem_cons.mpr ⟨rfl, (fun _ h => absurd h List.not_mem_nil)⟩)⟩)⟩)⟩)⟩)⟩)⟩)⟩)⟩)⟩)⟩)⟩)
set_option maxRecDepth 20000 in
theorem fd_own5 : ∀ q ∈ fdX5, q.1 = cnm 5 := (List.forall_mem_cons.mpr ⟨rfl, (List.forall_mem_cons.mpr ⟨rfl, (List.forall_mem_cons.mpr ⟨rfl, (List.forall_mem_cons.mpr ⟨rfl, (List.forall_mem_cons.mpr ⟨rfl, (List.forall_mem_cons.mpr ⟨rfl, (List.forall_mem_cons.mpr ⟨rfl, (List.forall_mem_cons.mpr ⟨rfl, (fun _ h => absurd h List.not_mem_nil)⟩)⟩)⟩)⟩)⟩)⟩)⟩)⟩)
set_option maxRecDepth 20000 in
theorem fd_own6 : ∀ q ∈ fdX6, q.1 = cnm 6 := (List.forall_mem_cons.mpr ⟨rfl, (List.forall_mem_cons.mpr ⟨rfl, (List.forall_mem_cons.mpr ⟨rfl, (List.forall_mem_cons.mpr ⟨rfl, (List.forall_mem_cons.mpr ⟨rfl, (List.forall_mem_cons.mpr ⟨rfl, (List.forall_mem_cons.mpr ⟨rfl, (List.forall_mem_cons.mpr ⟨rfl, (List.forall_mem_cons.mpr ⟨rfl, (List.forall_mem_cons.mpr ⟨rfl, (List.forall_mem_cons.mpr ⟨rfl, (List.forall_mem_cons.mpr ⟨rfl, (List.forall_mem_cons.mpr ⟨rfl, (List.forall_mem_cons.mpr ⟨rfl, (List.forall_mem_cons.mpr ⟨rfl, (List.forall_mem_cons.mpr ⟨rfl, (fun _ h => absurd h List.not_mem_nil)⟩)⟩)⟩)⟩)⟩)⟩)⟩)⟩)⟩)⟩)⟩)⟩)⟩)⟩)⟩)⟩)
set_option maxRecDepth 20000 in
theorem fd_own7 : ∀ q ∈ fdX7, q.1 = cnm 7 := (List.forall_mem_cons.mpr ⟨rfl, (List.forall_mem_cons.mpr ⟨rfl, (List.forall_mem_cons.mpr ⟨rfl, (List.forall_mem_cons.mpr ⟨rfl, (List.forall_mem_cons.mpr ⟨rfl, (List.forall_mem_cons.mpr ⟨rfl, (List.forall_mem_cons.mpr ⟨rfl, (List.forall_mem_cons.mpr ⟨rfl, (List.forall_mem_cons.mpr ⟨rfl, (List.forall_mem_cons.mpr ⟨rfl, (List.forall_mem_cons.mpr ⟨rfl, (List.forall_mem_cons.mpr ⟨rfl, (List.forall_mem_cons.mpr ⟨rfl, (List.forall_mem_cons.mpr ⟨rfl, (List.forall_mem_cons.mpr ⟨rfl, (fun _ h => absurd h List.not_mem_nil)⟩)⟩)⟩)⟩)⟩)⟩)⟩)⟩)⟩)⟩)⟩)⟩)⟩)⟩)⟩)
set_option maxRecDepth 20000 in
theorem fd_own8 : ∀ q ∈ fdX8, q.1 = cnm 8 := (List.forall_mem_cons.mpr ⟨rfl, (List.forall_mem_cons.mpr ⟨rfl, (List.forall_mem_cons.mpr ⟨rfl, (List.forall_mem_cons.mpr ⟨rfl, (List.forall_mem_cons.mpr ⟨rfl, (List.forall_mem_cons.mpr ⟨rfl, (List.forall_mem_cons.mpr ⟨rfl, (List.forall_mem_cons.mpr ⟨rfl, (List.forall_mem_cons.mpr ⟨rfl, (List.forall_mem_cons.mpr ⟨rfl, (List.forall_mem_cons.mpr ⟨rfl, (List.forall_mem_cons.mpr ⟨rfl, (List.forall_mem_cons.mpr ⟨rfl, (List.forall_mem_cons.mpr ⟨rfl, (List.forall_mem_cons.mpr ⟨rfl, (List.forall_mem_cons.mpr ⟨rfl, (List.forall_mem_cons.mpr ⟨rfl, (List.forall_mem_cons.mpr ⟨rfl, (List.forall_mem_cons.mpr ⟨rfl, (List.forall_mem_cons.mpr ⟨rfl, (fun _ h => absurd h List.not_mem_nil)⟩)⟩)⟩)⟩)⟩)⟩)⟩)⟩)⟩)⟩)⟩)⟩)⟩)⟩)⟩)⟩)⟩)⟩)⟩)⟩)
set_option maxRecDepth 20000 in
theorem fd_own9 : ∀ q ∈ fdX9, q.1 = cnm 9 := (List.forall_mem_cons.mpr ⟨rfl, (List.forall_mem_cons.mpr ⟨rfl, (List.forall_mem_cons.mpr ⟨rfl, (List.forall_mem_cons.mpr ⟨rfl, (List.forall_mem_cons.mpr ⟨rfl, (List.forall_mem_cons.mpr ⟨rfl, (List.forall_mem_cons.mpr ⟨rfl, (List.forall_mem_cons.mpr ⟨rfl, (List.forall_mem_cons.mpr ⟨rfl, (List.forall_mem_cons.mpr ⟨rfl, (List.forall_mem_cons.mpr ⟨rfl, (List.forall_mem_cons.mpr ⟨rfl, (List.forall_mem_cons.mpr ⟨rfl, (List.forall_mem_cons.mpr ⟨rfl, (List.forall_mem_cons.mpr ⟨rfl, (List.forall_mem_cons.mpr ⟨rfl, (List.forall_mem_cons.mpr ⟨rfl, (List.forall_mem_cons.mpr ⟨rfl, (fun _ h => absurd h List.not_mem_nil)⟩)⟩)⟩)⟩)⟩)⟩)⟩)⟩)⟩)⟩)⟩)⟩)⟩)⟩)⟩)⟩)⟩)⟩)
set_option maxRecDepth 20000 in
theorem fd_own10 : ∀ q ∈ fdX10, q.1 = cnm 10 := (List.forall_mem_cons.mpr ⟨rfl, (List.forall_mem_cons.mpr ⟨rfl, (List.forall_mem_cons.mpr ⟨rfl, (List.forall_mem_cons.mpr ⟨rfl, (List.forall_mem_cons.mpr ⟨rfl, (List.forall_mem_cons.mpr ⟨rfl, (fun _ h => absurd h List.not_mem_nil)⟩)⟩)⟩)⟩)⟩)⟩)
set_option maxRecDepth 20000 in
theorem fd_own11 : ∀ q ∈ fdX11, q.1 = cnm 11 := (List.forall_mem_cons.mpr ⟨rfl, (List.forall_mem_cons.mpr ⟨rfl, (List.forall_mem_cons.mpr ⟨rfl, (List.forall_mem_cons.mpr ⟨rfl, (List.forall_mem_cons.mpr ⟨rfl, (List.forall_mem_cons.mpr ⟨rfl, (List.forall_mem_cons.mpr ⟨rfl, (List.forall_mem_cons.mpr ⟨rfl, (List.forall_mem_cons.mpr ⟨rfl, (List.forall_mem_cons.mpr ⟨rfl, (List.forall_mem_cons.mpr ⟨rfl, (List.forall_mem_cons.mpr ⟨rfl, (fun _ h => absurd h List.not_mem_nil)⟩)⟩)⟩)⟩)⟩)⟩)⟩)⟩)⟩)⟩)⟩)⟩)
set_option maxRecDepth 20000 in
theorem fd_own12 : ∀ q ∈ fdX12, q.1 = cnm 12 := (List.forall_mem_cons.mpr ⟨rfl, (List.forall_mem_cons.mpr ⟨rfl, (List.forall_mem_cons.mpr ⟨rfl, (List.forall_mem_cons.mpr ⟨rfl, (List.forall_mem_cons.mpr ⟨rfl, (List.forall_mem_cons.mpr ⟨rfl, (List.forall_mem_cons.mpr ⟨rfl, (List.forall_mem_cons.mpr ⟨rfl, (List.forall_mem_cons.mpr ⟨rfl, (List.forall_mem_cons.mpr ⟨rfl, (List.forall_mem_cons.mpr ⟨rfl, (List.forall_mem_cons.mpr ⟨rfl, (List.forall_mem_cons.mpr ⟨rfl, (List.forall_mem_cons.mpr ⟨rfl, (List.forall_mem_cons.mpr ⟨rfl, (List.forall_mem_cons.mpr ⟨rfl, (List.forall_mem_cons.mpr ⟨rfl, (List.forall_mem_cons.mpr ⟨rfl, (List.forall_mem_cons.mpr ⟨rfl, (List.forall_mem_cons.mpr ⟨rfl, (List.forall_mem_cons.mpr ⟨rfl, (List.forall_mem_cons.mpr ⟨rfl, (List.forall_mem_cons.mpr ⟨rfl, (List.forall_mem_cons.mpr ⟨rfl, (List.forall_mem_cons.mpr ⟨rfl, (List.forall_mem_cons.mpr ⟨rfl, (List.forall_mem_cons.mpr ⟨rfl, (List.forall_mem_cons.mpr ⟨rfl, (List.forall_mem_cons.mpr ⟨rfl, (List.forall_mem_cons.mpr ⟨rfl, (List.forall_mem_cons.mpr ⟨rfl, (List.forall_mem_cons.mpr ⟨rfl, (List.forall_mem_cons.mpr ⟨rfl, (List.forall_mem_cons.mpr ⟨rfl, (List.forall_mem_cons.mpr ⟨rfl, (List.forall_mem_cons.mpr ⟨rfl, (List.forall_mem_cons.mpr ⟨rfl, (List.forall_mem_cons.mpr ⟨rfl, (List.forall_mem_cons.mpr ⟨rfl, (List.forall_mem_cons.mpr ⟨rfl, (List.forall_mem_cons.mpr ⟨rfl, (List.forall_mem_cons.mpr ⟨rfl, (List.forall_mem_cons.mpr ⟨rfl, (List.forall_mem_cons.mpr ⟨rfl, (List.forall_mem_cons.mpr ⟨rfl, (List.forall_mem_cons.mpr ⟨rfl, (List.forall_mem_cons.mpr ⟨rfl, (List.forall_mem_cons.mpr ⟨rfl, (List.forall_mem_cons.mpr ⟨rfl, (List.forall_mem_cons.mpr ⟨rfl, (List.forall_mem_cons.mpr ⟨rfl, (List.forall_mem_cons.mpr ⟨rfl, (List.forall_mem_cons.mpr ⟨rfl, (List.forall_mem_cons.mpr ⟨rfl, (List.forall_mem_cons.mpr ⟨rfl, (List.forall_mem_cons.mpr ⟨rfl, (List.forall_mem_cons.mpr ⟨rfl, (List.forall_mem_cons.mpr ⟨rfl, (List.forall_mem_cons.mpr ⟨rfl, (List.forall_mem_cons.mpr ⟨rfl, (List.forall_mem_cons.mpr ⟨rfl, (List.forall_mem_cons.mpr ⟨rfl, (List.forall_mem_cons.mpr ⟨rfl, (List.forall_mem_cons.mpr ⟨rfl, (List.forall_mem_cons.mpr ⟨rfl, (List.forall_mem_cons.mpr ⟨rfl, (List.forall_mem_cons.mpr ⟨rfl, (List.forall_mem_cons.mpr ⟨rfl, (List.forall_mem_cons.mpr ⟨rfl, (List.forall_mem_cons.mpr ⟨rfl, (List.forall_mem_cons.mpr ⟨rfl, (List.forall_mem_cons.mpr ⟨rfl, (List.forall_mem_cons.mpr ⟨rfl, (List.forall_mem_cons.mpr ⟨rfl, (List.forall_mem_cons.mpr ⟨rfl, (List.forall_mem_cons.mpr ⟨rfl, (List.forall_mem_cons.mpr ⟨rfl, (List.forall_mem_cons.mpr ⟨rfl, (List.forall_mem_cons.mpr ⟨rfl, (List.forall_mem_cons.mpr ⟨rfl, (List.forall_mem_cons.mpr ⟨rfl, (List.forall_mem_cons.mpr ⟨rfl, (List.forall_mem_cons.mpr ⟨rfl, (List.forall_mem_cons.mpr ⟨rfl, (List.forall_mem_cons.mpr ⟨rfl, (List.forall_mem_cons.mpr ⟨rfl, (List.forall_mem_cons.mpr ⟨rfl, (List.forall_mem_cons.mpr ⟨rfl, (List.forall_mem_cons.mpr ⟨rfl, (List.forall_mem_cons.mpr ⟨rfl, (List.forall_mem_cons.mpr ⟨rfl, (List.forall_mem_cons.mpr ⟨rfl, (List.forall_mem_cons.mpr ⟨rfl, (List.forall_mem_cons.mpr ⟨rfl, (List.forall_mem_cons.mpr ⟨rfl, (List.forall_mem_cons.mpr ⟨rfl, (List.forall_mem_cons.mpr ⟨rfl, (List.forall_mem_cons.mpr ⟨rfl, (List.forall_mem_cons.mpr ⟨rfl, (List.forall_mem_cons.mpr ⟨rfl, (List.forall_mem_cons.mpr ⟨rfl, (List.forall_mem_cons.mpr ⟨rfl, (List.forall_mem_cons.mpr ⟨rfl, (List.forall_mem_cons.mpr ⟨rfl, (List.forall_mem_cons.mpr ⟨rfl, (List.forall_mem_cons.mpr ⟨rfl, (List.forall_mem_cons.mpr ⟨rfl, (List.forall_mem_cons.mpr ⟨rfl, (List.forall_mem_cons.mpr ⟨rfl, (List.forall_mem_cons.mpr ⟨rfl, (List.forall_mem_cons.mpr ⟨rfl, (List.forall_mem_cons.mpr ⟨rfl, (List.forall_mem_cons.mpr ⟨rfl, (List.forall_mem_cons.mpr ⟨rfl, (List.forall_mem_cons.mpr ⟨rfl, (List.forall_mem_cons.mpr ⟨rfl, (List.forall_mem_cons.mpr ⟨rfl, (List.forall_mem_cons.mpr ⟨rfl, (List.forall_mem_cons.mpr ⟨rfl, (List.forall_mem_cons.mpr ⟨rfl, (List.forall_mem_cons.mpr ⟨rfl, (List.forall_mem_cons.mpr ⟨rfl, (List.forall_mem_cons.mpr ⟨rfl, (List.forall_mem_cons.mpr ⟨rfl, (List.forall_mem_cons.mpr ⟨rfl, (List.forall_mem_cons.mpr ⟨rfl, (List.forall_mem_cons.mpr ⟨rfl, (List.forall_mem_cons.mpr ⟨rfl, (List.forall_mem_cons.mpr ⟨rfl, (List.forall_mem_cons.mpr ⟨rfl, (List.forall_mem_cons.mpr ⟨rfl, (List.forall_mem_cons.mpr ⟨rfl, (List.forall_mem_cons.mpr ⟨rfl, (List.forall_mem_cons.mpr ⟨rfl, (List.forall_mem_cons.mpr ⟨rfl, (List.forall_mem_cons.mpr ⟨rfl, (List.forall_mem_cons.mpr ⟨rfl, (List.forall_mem_cons.mpr ⟨rfl, (List.forall_mem_cons.mpr ⟨rfl, (List.forall_mem_cons.mpr ⟨rfl, (List.forall_mem_cons.mpr ⟨rfl, (List.forall_mem_cons.mpr ⟨rfl, (List.forall_mem_cons.mpr ⟨rfl, (List.forall_mem_cons.mpr ⟨rfl, (List.forall_mem_cons.mpr ⟨rfl, (List.forall_mem_cons.mpr ⟨rfl, (List.forall_mem_cons.mpr ⟨rfl, (List.forall_mem_cons.mpr ⟨rfl, (List.forall_mem_cons.mpr ⟨rfl, (List.forall_mem_cons.mpr ⟨rfl, (List.forall_mem_cons.mpr ⟨rfl, (List.forall_mem_cons.mpr ⟨rfl, (List.forall_mem_cons.mpr ⟨rfl, (List.forall_mem_cons.mpr ⟨rfl, (List.forall_mem_cons.mpr ⟨rfl, (List.forall_mem_cons.mpr ⟨rfl, (List.forall_mem_cons.mpr ⟨rfl, (List.forall_mem_cons.mpr ⟨rfl, (List.forall_mem_cons.mpr ⟨rfl, (List.forall_mem_cons.mpr ⟨rfl, (List.forall_mem_cons.mpr ⟨rfl, (List.forall_mem_cons.mpr ⟨rfl, (List.forall_mem_cons.mpr ⟨rfl, (List.forall_mem_cons.mpr ⟨rfl, (List.forall_mem_cons.mpr ⟨rfl, (List.forall_mem_cons.mpr ⟨rfl, (List.forall_mem_cons.mpr ⟨rfl, (List.forall_mem_cons.mpr ⟨rfl, (List.forall_mem_cons.mpr ⟨rfl, (List.forall_mem_cons.mpr ⟨rfl, (List.forall_mem_cons.mpr ⟨rfl, (List.forall_mem_cons.mpr ⟨rfl, (List.forall_mem_cons.mpr ⟨rfl, (List.forall_mem_cons.mpr ⟨rfl, (List.forall_mem_cons.mpr ⟨rfl, (List.forall_mem_cons.mpr ⟨rfl, (List.forall_mem_cons.mpr ⟨rfl, (List.forall_mem_cons.mpr ⟨rfl, (List.forall_mem_cons.mpr ⟨rfl, (List.forall_mem_cons.mpr ⟨rfl, (fun _ h => absurd h List.not_mem_nil)⟩)⟩)⟩)⟩)⟩)⟩)⟩)⟩)⟩)⟩)⟩)⟩)⟩)⟩)⟩)⟩)⟩)⟩)⟩)⟩)⟩)⟩)⟩)⟩)⟩)⟩)⟩)⟩)⟩)⟩)⟩)⟩)⟩)⟩)⟩)⟩)⟩)⟩)⟩)⟩)⟩)⟩)⟩)⟩)⟩)⟩)⟩)⟩)⟩)⟩)⟩)⟩)⟩)⟩)⟩)⟩)⟩)⟩)⟩)⟩)⟩)⟩)⟩)⟩)⟩)⟩)⟩)⟩)⟩)⟩)⟩)⟩)⟩)⟩)⟩)⟩)⟩)⟩)⟩)⟩)⟩)⟩)⟩)⟩)⟩)⟩)⟩)⟩)⟩)⟩)⟩)⟩)⟩)⟩)⟩)⟩)⟩)⟩)⟩)⟩)⟩)⟩)⟩)⟩)⟩)⟩)⟩)⟩)⟩)⟩)⟩)⟩)⟩)⟩)⟩)⟩)⟩)⟩)⟩)⟩)⟩)⟩)⟩)⟩)⟩)⟩)⟩)⟩)⟩)⟩)⟩)⟩)⟩)⟩)⟩)⟩)⟩)⟩)⟩)⟩)⟩)⟩)⟩)⟩)⟩)⟩)⟩)⟩)⟩)⟩)⟩)⟩)⟩)⟩)⟩)⟩)⟩)⟩)⟩)⟩)⟩)⟩)⟩)⟩)⟩)⟩)⟩)⟩)⟩)⟩)⟩)⟩)⟩)⟩)⟩)⟩)⟩)⟩)⟩)⟩)
def hasP (l : List (Nat × Nat)) (a b : Nat) : Bool := l.any fun q => Nat.beq q.1 a && Nat.beq q.2 b
def hasI (l : List (Nat × Int)) (a : Nat) (b : Int) : Bool := l.any fun q => Nat.beq q.1 a && decide (q.2 = b)
theorem hasP_mem {l : List (Nat × Nat)} {a b : Nat} (h : hasP l a b = true) : (a, b) ∈ l := by
  obtain ⟨q, h1, h2⟩ := List.any_eq_true.mp h
  have h3 := (Bool.and_eq_true _ _).mp h2
  have e1 : q.1 = a := Nat.eq_of_beq_eq_true h3.1
  have e2 : q.2 = b := Nat.eq_of_beq_eq_true h3.2
  rw [← e1, ← e2]
  exact h1
theorem hasI_mem {l : List (Nat × Int)} {a : Nat} {b : Int} (h : hasI l a b = true) : (a, b) ∈ l := by
  obtain ⟨q, h1, h2⟩ := List.any_eq_true.mp h
  have h3 := (Bool.and_eq_true _ _).mp h2
  have e1 : q.1 = a := Nat.eq_of_beq_eq_true h3.1
  have e2 : q.2 = b := of_decide_eq_true h3.2
  rw [← e1, ← e2]
  exact h1
theorem by_out {α : Type} {t : List (List α)} (hn : t.length = 17) {i : Nat} {q : α} (h : q ∈ (ev_nth t i).getD []) : i < 17 := by
  have h9 : ∀ (t : List (List α)) (i : Nat), q ∈ (ev_nth t i).getD [] → i < t.length := by
    intro t
    induction t with
    | nil => intro i h; cases i <;> cases h
    | cons a r ih =>
      intro i h
      cases i with
      | zero => exact Nat.succ_pos _
      | succ i => exact Nat.succ_lt_succ (ih i h)
  exact hn ▸ h9 t i h
theorem by_all {P : Nat → Bool} (h : (List.range 17).all P = true) {i : Nat} (hi : i < 17) : P i = true := List.all_eq_true.mp h i (List.mem_range.mpr hi)

theorem by_fl_ok : ∀ i q, q ∈ by_fl i → (i, (q.1, q.2)) ∈ wl_fl := fun i q h => by
  have h1 := by_all (P := fun i => (by_fl i).all fun q => wl_fl.contains ((i, (q.1, q.2)))) (by decide +kernel) (by_out (t := by_fl_tab) rfl h)
  have h2 := List.all_eq_true.mp h1 q h
  simpa using h2
theorem by_lk_ok : ∀ i q, q ∈ by_lk i → (i, (q.1, q.2)) ∈ wl_lk := fun i q h => by
  have h1 := by_all (P := fun i => (by_lk i).all fun q => wl_lk.contains ((i, (q.1, q.2)))) (by decide +kernel) (by_out (t := by_lk_tab) rfl h)
  have h2 := List.all_eq_true.mp h1 q h
  simpa using h2
theorem by_cst_ok : ∀ i q, q ∈ by_cst i → (i, (q.1, q.2)) ∈ wl_cst := fun i q h => by
  have h1 := by_all (P := fun i => (by_cst i).all fun q => wl_cst.contains ((i, (q.1, q.2)))) (by decide +kernel) (by_out (t := by_cst_tab) rfl h)
  have h2 := List.all_eq_true.mp h1 q h
  simpa using h2
theorem by_csl_ok : ∀ i q, q ∈ by_csl i → (i, (q.1, q.2)) ∈ wl_csl := fun i q h => by
  have h1 := by_all (P := fun i => (by_csl i).all fun q => wl_csl.contains ((i, (q.1, q.2)))) (by decide +kernel) (by_out (t := by_csl_tab) rfl h)
  have h2 := List.all_eq_true.mp h1 q h
  simpa using h2
theorem by_clk_ok : ∀ i q, q ∈ by_clk i → (i, (q.1, q.2)) ∈ wl_clk := fun i q h => by
  have h1 := by_all (P := fun i => (by_clk i).all fun q => wl_clk.contains ((i, (q.1, q.2)))) (by decide +kernel) (by_out (t := by_clk_tab) rfl h)
  have h2 := List.all_eq_true.mp h1 q h
  simpa using h2
theorem by_clm_ok : ∀ i q, q ∈ by_clm i → (i, q) ∈ wl_clm := fun i q h => by
  have h1 := by_all (P := fun i => (by_clm i).all fun q => wl_clm.contains ((i, q))) (by decide +kernel) (by_out (t := by_clm_tab) rfl h)
  have h2 := List.all_eq_true.mp h1 q h
  simpa using h2
theorem by_nst_ok : ∀ i q, q ∈ by_nst i → (i, (q.1, q.2)) ∈ wl_nst := fun i q h => by
  have h1 := by_all (P := fun i => (by_nst i).all fun q => wl_nst.contains ((i, (q.1, q.2)))) (by decide +kernel) (by_out (t := by_nst_tab) rfl h)
  have h2 := List.all_eq_true.mp h1 q h
  simpa using h2
theorem by_sl_ok : ∀ i q, q ∈ by_sl i → (i, (q.1, q.2)) ∈ wl_sl := fun i q h => by
  have h1 := by_all (P := fun i => (by_sl i).all fun q => wl_sl.contains ((i, (q.1, q.2)))) (by decide +kernel) (by_out (t := by_sl_tab) rfl h)
  have h2 := List.all_eq_true.mp h1 q h
  simpa using h2
