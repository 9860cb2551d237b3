/-! ===== the law ===== -/
def tab_L_law (X : XT) : Tab := [(0, false, a_new M_L_law 7 [some none, some none, some none, some none] 3), (3, false, a_dup 4), (4, false, a_ci X M_L_law M_7_init 7 7), (7, false, a_astore 1 8), (8, false, a_new M_L_law 8 [some none, some none, none, some none, some none, none, some none, some none, some none, some none, none, some none, some none, some none, some none, some none, some none, none, some none, some none, some none] 11), (11, false, a_dup 12), (12, false, a_ci X M_L_law M_8_init 8 15), (15, false, a_astore 2 16), (16, false, a_const 0 17), (17, false, a_istore 3 18), (18, true, a_iload 3 19), (19, false, a_aload 0 20), (20, false, a_scl X 21), (21, false, a_const 5 22), (22, false, a_sub 23), (23, false, a_icmp 4 936 26), (26, false, a_aload 0 27), (27, false, a_iload 3 28), (28, false, a_scr X 29), (29, false, a_const 31 31), (31, false, a_and 32), (32, false, a_tsw 0 25 [152, 195, 218, 261, 304, 357, 390, 423, 436, 449, 482, 505, 548, 561, 584, 627, 670, 693, 736, 779, 822, 835, 848, 871, 894, 917] 930), (152, false, a_aload 1 153), (153, false, a_aload 0 154), (154, false, a_iload 3 155), (155, false, a_const 1 156), (156, false, a_add 157), (157, false, a_scr X 158), (158, false, a_aload 0 159), (159, false, a_iload 3 160), (160, false, a_const 2 161), (161, false, a_add 162), (162, false, a_scr X 163), (163, false, a_aload 0 164), (164, false, a_iload 3 165), (165, false, a_const 3 166), (166, false, a_add 167), (167, false, a_scr X 168), (168, false, a_cv X M_L_law M_7_insert 7 4 171), (171, false, a_aload 2 172), (172, false, a_aload 0 173), (173, false, a_iload 3 174), (174, false, a_const 1 175), (175, false, a_add 176), (176, false, a_scr X 177), (177, false, a_aload 0 178), (178, false, a_iload 3 179), (179, false, a_const 2 180), (180, false, a_add 181), (181, false, a_scr X 182), (182, false, a_aload 0 183), (183, false, a_iload 3 184), (184, false, a_const 3 185), (185, false, a_add 186), (186, false, a_scr X 187), (187, false, a_cv X M_L_law M_8_insert 8 4 190), (190, false, a_icmp 0 930 193), (193, false, a_const 0 194), (194, false, a_zret M_L_law), (195, false, a_aload 1 196), (196, false, a_aload 0 197), (197, false, a_iload 3 198), (198, false, a_const 1 199), (199, false, a_add 200), (200, false, a_scr X 201), (201, false, a_cv X M_L_law M_7_remove 7 2 204), (204, false, a_aload 2 205), (205, false, a_aload 0 206), (206, false, a_iload 3 207), (207, false, a_const 1 208), (208, false, a_add 209), (209, false, a_scr X 210), (210, false, a_cv X M_L_law M_8_remove 8 2 213), (213, false, a_icmp 0 930 216), (216, false, a_const 0 217), (217, false, a_zret M_L_law), (218, false, a_aload 1 219), (219, false, a_aload 0 220), (220, false, a_iload 3 221), (221, false, a_const 1 222), (222, false, a_add 223), (223, false, a_scr X 224), (224, false, a_aload 0 225), (225, false, a_iload 3 226), (226, false, a_const 2 227), (227, false, a_add 228), (228, false, a_scr X 229), (229, false, a_aload 0 230), (230, false, a_iload 3 231), (231, false, a_const 3 232), (232, false, a_add 233), (233, false, a_scr X 234), (234, false, a_cv X M_L_law M_7_setLines 7 4 237), (237, false, a_aload 2 238), (238, false, a_aload 0 239), (239, false, a_iload 3 240), (240, false, a_const 1 241), (241, false, a_add 242), (242, false, a_scr X 243), (243, false, a_aload 0 244), (244, false, a_iload 3 245), (245, false, a_const 2 246), (246, false, a_add 247), (247, false, a_scr X 248), (248, false, a_aload 0 249), (249, false, a_iload 3 250), (250, false, a_const 3 251), (251, false, a_add 252), (252, false, a_scr X 253), (253, false, a_cv X M_L_law M_8_setLines 8 4 256), (256, false, a_icmp 0 930 259), (259, false, a_const 0 260), (260, false, a_zret M_L_law), (261, false, a_aload 1 262), (262, false, a_aload 0 263), (263, false, a_iload 3 264), (264, false, a_const 1 265), (265, false, a_add 266), (266, false, a_scr X 267), (267, false, a_aload 0 268), (268, false, a_iload 3 269), (269, false, a_const 2 270), (270, false, a_add 271), (271, false, a_scr X 272), (272, false, a_aload 0 273), (273, false, a_iload 3 274), (274, false, a_const 3 275), (275, false, a_add 276), (276, false, a_scr X 277), (277, false, a_cv X M_L_law M_7_setFlag 7 4 280), (280, false, a_aload 2 281), (281, false, a_aload 0 282), (282, false, a_iload 3 283), (283, false, a_const 1 284), (284, false, a_add 285), (285, false, a_scr X 286), (286, false, a_aload 0 287), (287, false, a_iload 3 288), (288, false, a_const 2 289), (289, false, a_add 290), (290, false, a_scr X 291), (291, false, a_aload 0 292), (292, false, a_iload 3 293), (293, false, a_const 3 294), (294, false, a_add 295), (295, false, a_scr X 296), (296, false, a_cv X M_L_law M_8_setFlag 8 4 299), (299, false, a_icmp 0 930 302), (302, false, a_const 0 303), (303, false, a_zret M_L_law), (304, false, a_aload 1 305), (305, false, a_aload 0 306), (306, false, a_iload 3 307), (307, false, a_const 1 308), (308, false, a_add 309), (309, false, a_scr X 310), (310, false, a_aload 0 311), (311, false, a_iload 3 312), (312, false, a_const 2 313), (313, false, a_add 314), (314, false, a_scr X 315), (315, false, a_aload 0 316), (316, false, a_iload 3 317), (317, false, a_const 3 318), (318, false, a_add 319), (319, false, a_scr X 320), (320, false, a_aload 0 321), (321, false, a_iload 3 322), (322, false, a_const 4 323), (323, false, a_add 324), (324, false, a_scr X 325), (325, false, a_cv X M_L_law M_7_addNote 7 5 328), (328, false, a_aload 2 329), (329, false, a_aload 0 330), (330, false, a_iload 3 331), (331, false, a_const 1 332), (332, false, a_add 333), (333, false, a_scr X 334), (334, false, a_aload 0 335), (335, false, a_iload 3 336), (336, false, a_const 2 337), (337, false, a_add 338), (338, false, a_scr X 339), (339, false, a_aload 0 340), (340, false, a_iload 3 341), (341, false, a_const 3 342), (342, false, a_add 343), (343, false, a_scr X 344), (344, false, a_aload 0 345), (345, false, a_iload 3 346), (346, false, a_const 4 347), (347, false, a_add 348), (348, false, a_scr X 349), (349, false, a_cv X M_L_law M_8_addNote 8 5 352), (352, false, a_icmp 0 930 355), (355, false, a_const 0 356), (356, false, a_zret M_L_law), (357, false, a_aload 1 358), (358, false, a_aload 0 359), (359, false, a_iload 3 360), (360, false, a_const 1 361), (361, false, a_add 362), (362, false, a_scr X 363), (363, false, a_aload 0 364), (364, false, a_iload 3 365), (365, false, a_const 2 366), (366, false, a_add 367), (367, false, a_scr X 368), (368, false, a_cv X M_L_law M_7_removeNote 7 3 371), (371, false, a_aload 2 372), (372, false, a_aload 0 373), (373, false, a_iload 3 374), (374, false, a_const 1 375), (375, false, a_add 376), (376, false, a_scr X 377), (377, false, a_aload 0 378), (378, false, a_iload 3 379), (379, false, a_const 2 380), (380, false, a_add 381), (381, false, a_scr X 382), (382, false, a_cv X M_L_law M_8_removeNote 8 3 385), (385, false, a_icmp 0 930 388), (388, false, a_const 0 389), (389, false, a_zret M_L_law), (390, false, a_aload 1 391), (391, false, a_aload 0 392), (392, false, a_iload 3 393), (393, false, a_const 1 394), (394, false, a_add 395), (395, false, a_scr X 396), (396, false, a_aload 0 397), (397, false, a_iload 3 398), (398, false, a_const 2 399), (399, false, a_add 400), (400, false, a_scr X 401), (401, false, a_cv X M_L_law M_7_set 7 3 404), (404, false, a_aload 2 405), (405, false, a_aload 0 406), (406, false, a_iload 3 407), (407, false, a_const 1 408), (408, false, a_add 409), (409, false, a_scr X 410), (410, false, a_aload 0 411), (411, false, a_iload 3 412), (412, false, a_const 2 413), (413, false, a_add 414), (414, false, a_scr X 415), (415, false, a_cv X M_L_law M_8_set 8 3 418), (418, false, a_icmp 0 930 421), (421, false, a_const 0 422), (422, false, a_zret M_L_law), (423, false, a_aload 1 424), (424, false, a_cv X M_L_law M_7_undo 7 1 427), (427, false, a_aload 2 428), (428, false, a_cv X M_L_law M_8_undo 8 1 431), (431, false, a_icmp 0 930 434), (434, false, a_const 0 435), (435, false, a_zret M_L_law), (436, false, a_aload 1 437), (437, false, a_cv X M_L_law M_7_pairCount 7 1 440), (440, false, a_aload 2 441), (441, false, a_cv X M_L_law M_8_pairCount 8 1 444), (444, false, a_icmp 0 930 447), (447, false, a_const 0 448), (448, false, a_zret M_L_law), (449, false, a_aload 1 450), (450, false, a_aload 0 451), (451, false, a_iload 3 452), (452, false, a_const 1 453), (453, false, a_add 454), (454, false, a_scr X 455), (455, false, a_aload 0 456), (456, false, a_iload 3 457), (457, false, a_const 2 458), (458, false, a_add 459), (459, false, a_scr X 460), (460, false, a_cv X M_L_law M_7_pairInfo 7 3 463), (463, false, a_aload 2 464), (464, false, a_aload 0 465), (465, false, a_iload 3 466), (466, false, a_const 1 467), (467, false, a_add 468), (468, false, a_scr X 469), (469, false, a_aload 0 470), (470, false, a_iload 3 471), (471, false, a_const 2 472), (472, false, a_add 473), (473, false, a_scr X 474), (474, false, a_cv X M_L_law M_8_pairInfo 8 3 477), (477, false, a_icmp 0 930 480), (480, false, a_const 0 481), (481, false, a_zret M_L_law), (482, false, a_aload 1 483), (483, false, a_aload 0 484), (484, false, a_iload 3 485), (485, false, a_const 1 486), (486, false, a_add 487), (487, false, a_scr X 488), (488, false, a_cv X M_L_law M_7_noteCount 7 2 491), (491, false, a_aload 2 492), (492, false, a_aload 0 493), (493, false, a_iload 3 494), (494, false, a_const 1 495), (495, false, a_add 496), (496, false, a_scr X 497), (497, false, a_cv X M_L_law M_8_noteCount 8 2 500), (500, false, a_icmp 0 930 503), (503, false, a_const 0 504), (504, false, a_zret M_L_law), (505, false, a_aload 1 506), (506, false, a_aload 0 507), (507, false, a_iload 3 508), (508, false, a_const 1 509), (509, false, a_add 510), (510, false, a_scr X 511), (511, false, a_aload 0 512), (512, false, a_iload 3 513), (513, false, a_const 2 514), (514, false, a_add 515), (515, false, a_scr X 516), (516, false, a_aload 0 517), (517, false, a_iload 3 518), (518, false, a_const 3 519), (519, false, a_add 520), (520, false, a_scr X 521), (521, false, a_cv X M_L_law M_7_noteInfo 7 4 524), (524, false, a_aload 2 525), (525, false, a_aload 0 526), (526, false, a_iload 3 527), (527, false, a_const 1 528), (528, false, a_add 529), (529, false, a_scr X 530), (530, false, a_aload 0 531), (531, false, a_iload 3 532), (532, false, a_const 2 533), (533, false, a_add 534), (534, false, a_scr X 535), (535, false, a_aload 0 536), (536, false, a_iload 3 537), (537, false, a_const 3 538), (538, false, a_add 539), (539, false, a_scr X 540), (540, false, a_cv X M_L_law M_8_noteInfo 8 4 543), (543, false, a_icmp 0 930 546), (546, false, a_const 0 547), (547, false, a_zret M_L_law), (548, false, a_aload 1 549), (549, false, a_cv X M_L_law M_7_spreadCount 7 1 552), (552, false, a_aload 2 553), (553, false, a_cv X M_L_law M_8_spreadCount 8 1 556), (556, false, a_icmp 0 930 559), (559, false, a_const 0 560), (560, false, a_zret M_L_law), (561, false, a_aload 1 562), (562, false, a_aload 0 563), (563, false, a_iload 3 564), (564, false, a_const 1 565), (565, false, a_add 566), (566, false, a_scr X 567), (567, false, a_cv X M_L_law M_7_segmentCount 7 2 570), (570, false, a_aload 2 571), (571, false, a_aload 0 572), (572, false, a_iload 3 573), (573, false, a_const 1 574), (574, false, a_add 575), (575, false, a_scr X 576), (576, false, a_cv X M_L_law M_8_segmentCount 8 2 579), (579, false, a_icmp 0 930 582), (582, false, a_const 0 583), (583, false, a_zret M_L_law), (584, false, a_aload 1 585), (585, false, a_aload 0 586), (586, false, a_iload 3 587), (587, false, a_const 1 588), (588, false, a_add 589), (589, false, a_scr X 590), (590, false, a_aload 0 591), (591, false, a_iload 3 592), (592, false, a_const 2 593), (593, false, a_add 594), (594, false, a_scr X 595), (595, false, a_aload 0 596), (596, false, a_iload 3 597), (597, false, a_const 3 598), (598, false, a_add 599), (599, false, a_scr X 600), (600, false, a_cv X M_L_law M_7_segmentInfo 7 4 603), (603, false, a_aload 2 604), (604, false, a_aload 0 605), (605, false, a_iload 3 606), (606, false, a_const 1 607), (607, false, a_add 608), (608, false, a_scr X 609), (609, false, a_aload 0 610), (610, false, a_iload 3 611), (611, false, a_const 2 612), (612, false, a_add 613), (613, false, a_scr X 614), (614, false, a_aload 0 615), (615, false, a_iload 3 616), (616, false, a_const 3 617), (617, false, a_add 618), (618, false, a_scr X 619), (619, false, a_cv X M_L_law M_8_segmentInfo 8 4 622), (622, false, a_icmp 0 930 625), (625, false, a_const 0 626), (626, false, a_zret M_L_law), (627, false, a_aload 1 628), (628, false, a_aload 0 629), (629, false, a_iload 3 630), (630, false, a_const 1 631), (631, false, a_add 632), (632, false, a_scr X 633), (633, false, a_aload 0 634), (634, false, a_iload 3 635), (635, false, a_const 2 636), (636, false, a_add 637), (637, false, a_scr X 638), (638, false, a_aload 0 639), (639, false, a_iload 3 640), (640, false, a_const 3 641), (641, false, a_add 642), (642, false, a_scr X 643), (643, false, a_cv X M_L_law M_7_pageInfo 7 4 646), (646, false, a_aload 2 647), (647, false, a_aload 0 648), (648, false, a_iload 3 649), (649, false, a_const 1 650), (650, false, a_add 651), (651, false, a_scr X 652), (652, false, a_aload 0 653), (653, false, a_iload 3 654), (654, false, a_const 2 655), (655, false, a_add 656), (656, false, a_scr X 657), (657, false, a_aload 0 658), (658, false, a_iload 3 659), (659, false, a_const 3 660), (660, false, a_add 661), (661, false, a_scr X 662), (662, false, a_cv X M_L_law M_8_pageInfo 8 4 665), (665, false, a_icmp 0 930 668), (668, false, a_const 0 669), (669, false, a_zret M_L_law), (670, false, a_aload 1 671), (671, false, a_aload 0 672), (672, false, a_iload 3 673), (673, false, a_const 1 674), (674, false, a_add 675), (675, false, a_scr X 676), (676, false, a_cv X M_L_law M_7_isOverfull 7 2 679), (679, false, a_aload 2 680), (680, false, a_aload 0 681), (681, false, a_iload 3 682), (682, false, a_const 1 683), (683, false, a_add 684), (684, false, a_scr X 685), (685, false, a_cv X M_L_law M_8_isOverfull 8 2 688), (688, false, a_icmp 0 930 691), (691, false, a_const 0 692), (692, false, a_zret M_L_law), (693, false, a_aload 1 694), (694, false, a_aload 0 695), (695, false, a_iload 3 696), (696, false, a_const 1 697), (697, false, a_add 698), (698, false, a_scr X 699), (699, false, a_aload 0 700), (700, false, a_iload 3 701), (701, false, a_const 2 702), (702, false, a_add 703), (703, false, a_scr X 704), (704, false, a_aload 0 705), (705, false, a_iload 3 706), (706, false, a_const 3 707), (707, false, a_add 708), (708, false, a_scr X 709), (709, false, a_cv X M_L_law M_7_spreadOf 7 4 712), (712, false, a_aload 2 713), (713, false, a_aload 0 714), (714, false, a_iload 3 715), (715, false, a_const 1 716), (716, false, a_add 717), (717, false, a_scr X 718), (718, false, a_aload 0 719), (719, false, a_iload 3 720), (720, false, a_const 2 721), (721, false, a_add 722), (722, false, a_scr X 723), (723, false, a_aload 0 724), (724, false, a_iload 3 725), (725, false, a_const 3 726), (726, false, a_add 727), (727, false, a_scr X 728), (728, false, a_cv X M_L_law M_8_spreadOf 8 4 731), (731, false, a_icmp 0 930 734), (734, false, a_const 0 735), (735, false, a_zret M_L_law), (736, false, a_aload 1 737), (737, false, a_aload 0 738), (738, false, a_iload 3 739), (739, false, a_const 1 740), (740, false, a_add 741), (741, false, a_scr X 742), (742, false, a_aload 0 743), (743, false, a_iload 3 744), (744, false, a_const 2 745), (745, false, a_add 746), (746, false, a_scr X 747), (747, false, a_aload 0 748), (748, false, a_iload 3 749), (749, false, a_const 3 750), (750, false, a_add 751), (751, false, a_scr X 752), (752, false, a_cv X M_L_law M_7_rowOf 7 4 755), (755, false, a_aload 2 756), (756, false, a_aload 0 757), (757, false, a_iload 3 758), (758, false, a_const 1 759), (759, false, a_add 760), (760, false, a_scr X 761), (761, false, a_aload 0 762), (762, false, a_iload 3 763), (763, false, a_const 2 764), (764, false, a_add 765), (765, false, a_scr X 766), (766, false, a_aload 0 767), (767, false, a_iload 3 768), (768, false, a_const 3 769), (769, false, a_add 770), (770, false, a_scr X 771), (771, false, a_cv X M_L_law M_8_rowOf 8 4 774), (774, false, a_icmp 0 930 777), (777, false, a_const 0 778), (778, false, a_zret M_L_law), (779, false, a_aload 1 780), (780, false, a_aload 0 781), (781, false, a_iload 3 782), (782, false, a_const 1 783), (783, false, a_add 784), (784, false, a_scr X 785), (785, false, a_aload 0 786), (786, false, a_iload 3 787), (787, false, a_const 2 788), (788, false, a_add 789), (789, false, a_scr X 790), (790, false, a_aload 0 791), (791, false, a_iload 3 792), (792, false, a_const 3 793), (793, false, a_add 794), (794, false, a_scr X 795), (795, false, a_cv X M_L_law M_7_shown 7 4 798), (798, false, a_aload 2 799), (799, false, a_aload 0 800), (800, false, a_iload 3 801), (801, false, a_const 1 802), (802, false, a_add 803), (803, false, a_scr X 804), (804, false, a_aload 0 805), (805, false, a_iload 3 806), (806, false, a_const 2 807), (807, false, a_add 808), (808, false, a_scr X 809), (809, false, a_aload 0 810), (810, false, a_iload 3 811), (811, false, a_const 3 812), (812, false, a_add 813), (813, false, a_scr X 814), (814, false, a_cv X M_L_law M_8_shown 8 4 817), (817, false, a_icmp 0 930 820), (820, false, a_const 0 821), (821, false, a_zret M_L_law), (822, false, a_aload 1 823), (823, false, a_cv X M_L_law M_7_cost 7 1 826), (826, false, a_aload 2 827), (827, false, a_cv X M_L_law M_8_cost 8 1 830), (830, false, a_icmp 0 930 833), (833, false, a_const 0 834), (834, false, a_zret M_L_law), (835, false, a_aload 1 836), (836, false, a_cv X M_L_law M_7_bestCost 7 1 839), (839, false, a_aload 2 840), (840, false, a_cv X M_L_law M_8_bestCost 8 1 843), (843, false, a_icmp 0 930 846), (846, false, a_const 0 847), (847, false, a_zret M_L_law), (848, false, a_aload 1 849), (849, false, a_aload 0 850), (850, false, a_iload 3 851), (851, false, a_const 1 852), (852, false, a_add 853), (853, false, a_scr X 854), (854, false, a_cv X M_L_law M_7_bestBreak 7 2 857), (857, false, a_aload 2 858), (858, false, a_aload 0 859), (859, false, a_iload 3 860), (860, false, a_const 1 861), (861, false, a_add 862), (862, false, a_scr X 863), (863, false, a_cv X M_L_law M_8_bestBreak 8 2 866), (866, false, a_icmp 0 930 869), (869, false, a_const 0 870), (870, false, a_zret M_L_law), (871, false, a_aload 1 872), (872, false, a_aload 0 873), (873, false, a_iload 3 874), (874, false, a_const 1 875), (875, false, a_add 876), (876, false, a_scr X 877), (877, false, a_cv X M_L_law M_7_leastHeight 7 2 880), (880, false, a_aload 2 881), (881, false, a_aload 0 882), (882, false, a_iload 3 883), (883, false, a_const 1 884), (884, false, a_add 885), (885, false, a_scr X 886), (886, false, a_cv X M_L_law M_8_leastHeight 8 2 889), (889, false, a_icmp 0 930 892), (892, false, a_const 0 893), (893, false, a_zret M_L_law), (894, false, a_aload 1 895), (895, false, a_aload 0 896), (896, false, a_iload 3 897), (897, false, a_const 1 898), (898, false, a_add 899), (899, false, a_scr X 900), (900, false, a_cv X M_L_law M_7_overfullWith 7 2 903), (903, false, a_aload 2 904), (904, false, a_aload 0 905), (905, false, a_iload 3 906), (906, false, a_const 1 907), (907, false, a_add 908), (908, false, a_scr X 909), (909, false, a_cv X M_L_law M_8_overfullWith 8 2 912), (912, false, a_icmp 0 930 915), (915, false, a_const 0 916), (916, false, a_zret M_L_law), (917, false, a_aload 1 918), (918, false, a_cv X M_L_law M_7_splitPairs 7 1 921), (921, false, a_aload 2 922), (922, false, a_cv X M_L_law M_8_splitPairs 8 1 925), (925, false, a_icmp 0 930 928), (928, false, a_const 0 929), (929, false, a_zret M_L_law), (930, false, a_iinc 3 5 933), (933, false, a_goto 18), (936, false, a_const 1 937), (937, false, a_zret M_L_law)]
set_option maxRecDepth 20000 in
theorem t_L_law (X : XT) : tget (tab_L_law X) 0 = some (false, a_new M_L_law 7 [some none, some none, some none, some none] 3) ∧ tget (tab_L_law X) 3 = some (false, a_dup 4) ∧ tget (tab_L_law X) 4 = some (false, a_ci X M_L_law M_7_init 7 7) ∧ tget (tab_L_law X) 7 = some (false, a_astore 1 8) ∧ tget (tab_L_law X) 8 = some (false, a_new M_L_law 8 [some none, some none, none, some none, some none, none, some none, some none, some none, some none, none, some none, some none, some none, some none, some none, some none, none, some none, some none, some none] 11) ∧ tget (tab_L_law X) 11 = some (false, a_dup 12) ∧ tget (tab_L_law X) 12 = some (false, a_ci X M_L_law M_8_init 8 15) ∧ tget (tab_L_law X) 15 = some (false, a_astore 2 16) ∧ tget (tab_L_law X) 16 = some (false, a_const 0 17) ∧ tget (tab_L_law X) 17 = some (false, a_istore 3 18) ∧ tget (tab_L_law X) 18 = some (true, a_iload 3 19) ∧ tget (tab_L_law X) 19 = some (false, a_aload 0 20) ∧ tget (tab_L_law X) 20 = some (false, a_scl X 21) ∧ tget (tab_L_law X) 21 = some (false, a_const 5 22) ∧ tget (tab_L_law X) 22 = some (false, a_sub 23) ∧ tget (tab_L_law X) 23 = some (false, a_icmp 4 936 26) ∧ tget (tab_L_law X) 26 = some (false, a_aload 0 27) ∧ tget (tab_L_law X) 27 = some (false, a_iload 3 28) ∧ tget (tab_L_law X) 28 = some (false, a_scr X 29) ∧ tget (tab_L_law X) 29 = some (false, a_const 31 31) ∧ tget (tab_L_law X) 31 = some (false, a_and 32) ∧ tget (tab_L_law X) 32 = some (false, a_tsw 0 25 [152, 195, 218, 261, 304, 357, 390, 423, 436, 449, 482, 505, 548, 561, 584, 627, 670, 693, 736, 779, 822, 835, 848, 871, 894, 917] 930) ∧ tget (tab_L_law X) 152 = some (false, a_aload 1 153) ∧ tget (tab_L_law X) 153 = some (false, a_aload 0 154) ∧ tget (tab_L_law X) 154 = some (false, a_iload 3 155) ∧ tget (tab_L_law X) 155 = some (false, a_const 1 156) ∧ tget (tab_L_law X) 156 = some (false, a_add 157) ∧ tget (tab_L_law X) 157 = some (false, a_scr X 158) ∧ tget (tab_L_law X) 158 = some (false, a_aload 0 159) ∧ tget (tab_L_law X) 159 = some (false, a_iload 3 160) ∧ tget (tab_L_law X) 160 = some (false, a_const 2 161) ∧ tget (tab_L_law X) 161 = some (false, a_add 162) ∧ tget (tab_L_law X) 162 = some (false, a_scr X 163) ∧ tget (tab_L_law X) 163 = some (false, a_aload 0 164) ∧ tget (tab_L_law X) 164 = some (false, a_iload 3 165) ∧ tget (tab_L_law X) 165 = some (false, a_const 3 166) ∧ tget (tab_L_law X) 166 = some (false, a_add 167) ∧ tget (tab_L_law X) 167 = some (false, a_scr X 168) ∧ tget (tab_L_law X) 168 = some (false, a_cv X M_L_law M_7_insert 7 4 171) ∧ tget (tab_L_law X) 171 = some (false, a_aload 2 172) ∧ tget (tab_L_law X) 172 = some (false, a_aload 0 173) ∧ tget (tab_L_law X) 173 = some (false, a_iload 3 174) ∧ tget (tab_L_law X) 174 = some (false, a_const 1 175) ∧ tget (tab_L_law X) 175 = some (false, a_add 176) ∧ tget (tab_L_law X) 176 = some (false, a_scr X 177) ∧ tget (tab_L_law X) 177 = some (false, a_aload 0 178) ∧ tget (tab_L_law X) 178 = some (false, a_iload 3 179) ∧ tget (tab_L_law X) 179 = some (false, a_const 2 180) ∧ tget (tab_L_law X) 180 = some (false, a_add 181) ∧ tget (tab_L_law X) 181 = some (false, a_scr X 182) ∧ tget (tab_L_law X) 182 = some (false, a_aload 0 183) ∧ tget (tab_L_law X) 183 = some (false, a_iload 3 184) ∧ tget (tab_L_law X) 184 = some (false, a_const 3 185) ∧ tget (tab_L_law X) 185 = some (false, a_add 186) ∧ tget (tab_L_law X) 186 = some (false, a_scr X 187) ∧ tget (tab_L_law X) 187 = some (false, a_cv X M_L_law M_8_insert 8 4 190) ∧ tget (tab_L_law X) 190 = some (false, a_icmp 0 930 193) ∧ tget (tab_L_law X) 193 = some (false, a_const 0 194) ∧ tget (tab_L_law X) 194 = some (false, a_zret M_L_law) ∧ tget (tab_L_law X) 195 = some (false, a_aload 1 196) ∧ tget (tab_L_law X) 196 = some (false, a_aload 0 197) ∧ tget (tab_L_law X) 197 = some (false, a_iload 3 198) ∧ tget (tab_L_law X) 198 = some (false, a_const 1 199) ∧ tget (tab_L_law X) 199 = some (false, a_add 200) ∧ tget (tab_L_law X) 200 = some (false, a_scr X 201) ∧ tget (tab_L_law X) 201 = some (false, a_cv X M_L_law M_7_remove 7 2 204) ∧ tget (tab_L_law X) 204 = some (false, a_aload 2 205) ∧ tget (tab_L_law X) 205 = some (false, a_aload 0 206) ∧ tget (tab_L_law X) 206 = some (false, a_iload 3 207) ∧ tget (tab_L_law X) 207 = some (false, a_const 1 208) ∧ tget (tab_L_law X) 208 = some (false, a_add 209) ∧ tget (tab_L_law X) 209 = some (false, a_scr X 210) ∧ tget (tab_L_law X) 210 = some (false, a_cv X M_L_law M_8_remove 8 2 213) ∧ tget (tab_L_law X) 213 = some (false, a_icmp 0 930 216) ∧ tget (tab_L_law X) 216 = some (false, a_const 0 217) ∧ tget (tab_L_law X) 217 = some (false, a_zret M_L_law) ∧ tget (tab_L_law X) 218 = some (false, a_aload 1 219) ∧ tget (tab_L_law X) 219 = some (false, a_aload 0 220) ∧ tget (tab_L_law X) 220 = some (false, a_iload 3 221) ∧ tget (tab_L_law X) 221 = some (false, a_const 1 222) ∧ tget (tab_L_law X) 222 = some (false, a_add 223) ∧ tget (tab_L_law X) 223 = some (false, a_scr X 224) ∧ tget (tab_L_law X) 224 = some (false, a_aload 0 225) ∧ tget (tab_L_law X) 225 = some (false, a_iload 3 226) ∧ tget (tab_L_law X) 226 = some (false, a_const 2 227) ∧ tget (tab_L_law X) 227 = some (false, a_add 228) ∧ tget (tab_L_law X) 228 = some (false, a_scr X 229) ∧ tget (tab_L_law X) 229 = some (false, a_aload 0 230) ∧ tget (tab_L_law X) 230 = some (false, a_iload 3 231) ∧ tget (tab_L_law X) 231 = some (false, a_const 3 232) ∧ tget (tab_L_law X) 232 = some (false, a_add 233) ∧ tget (tab_L_law X) 233 = some (false, a_scr X 234) ∧ tget (tab_L_law X) 234 = some (false, a_cv X M_L_law M_7_setLines 7 4 237) ∧ tget (tab_L_law X) 237 = some (false, a_aload 2 238) ∧ tget (tab_L_law X) 238 = some (false, a_aload 0 239) ∧ tget (tab_L_law X) 239 = some (false, a_iload 3 240) ∧ tget (tab_L_law X) 240 = some (false, a_const 1 241) ∧ tget (tab_L_law X) 241 = some (false, a_add 242) ∧ tget (tab_L_law X) 242 = some (false, a_scr X 243) ∧ tget (tab_L_law X) 243 = some (false, a_aload 0 244) ∧ tget (tab_L_law X) 244 = some (false, a_iload 3 245) ∧ tget (tab_L_law X) 245 = some (false, a_const 2 246) ∧ tget (tab_L_law X) 246 = some (false, a_add 247) ∧ tget (tab_L_law X) 247 = some (false, a_scr X 248) ∧ tget (tab_L_law X) 248 = some (false, a_aload 0 249) ∧ tget (tab_L_law X) 249 = some (false, a_iload 3 250) ∧ tget (tab_L_law X) 250 = some (false, a_const 3 251) ∧ tget (tab_L_law X) 251 = some (false, a_add 252) ∧ tget (tab_L_law X) 252 = some (false, a_scr X 253) ∧ tget (tab_L_law X) 253 = some (false, a_cv X M_L_law M_8_setLines 8 4 256) ∧ tget (tab_L_law X) 256 = some (false, a_icmp 0 930 259) ∧ tget (tab_L_law X) 259 = some (false, a_const 0 260) ∧ tget (tab_L_law X) 260 = some (false, a_zret M_L_law) ∧ tget (tab_L_law X) 261 = some (false, a_aload 1 262) ∧ tget (tab_L_law X) 262 = some (false, a_aload 0 263) ∧ tget (tab_L_law X) 263 = some (false, a_iload 3 264) ∧ tget (tab_L_law X) 264 = some (false, a_const 1 265) ∧ tget (tab_L_law X) 265 = some (false, a_add 266) ∧ tget (tab_L_law X) 266 = some (false, a_scr X 267) ∧ tget (tab_L_law X) 267 = some (false, a_aload 0 268) ∧ tget (tab_L_law X) 268 = some (false, a_iload 3 269) ∧ tget (tab_L_law X) 269 = some (false, a_const 2 270) ∧ tget (tab_L_law X) 270 = some (false, a_add 271) ∧ tget (tab_L_law X) 271 = some (false, a_scr X 272) ∧ tget (tab_L_law X) 272 = some (false, a_aload 0 273) ∧ tget (tab_L_law X) 273 = some (false, a_iload 3 274) ∧ tget (tab_L_law X) 274 = some (false, a_const 3 275) ∧ tget (tab_L_law X) 275 = some (false, a_add 276) ∧ tget (tab_L_law X) 276 = some (false, a_scr X 277) ∧ tget (tab_L_law X) 277 = some (false, a_cv X M_L_law M_7_setFlag 7 4 280) ∧ tget (tab_L_law X) 280 = some (false, a_aload 2 281) ∧ tget (tab_L_law X) 281 = some (false, a_aload 0 282) ∧ tget (tab_L_law X) 282 = some (false, a_iload 3 283) ∧ tget (tab_L_law X) 283 = some (false, a_const 1 284) ∧ tget (tab_L_law X) 284 = some (false, a_add 285) ∧ tget (tab_L_law X) 285 = some (false, a_scr X 286) ∧ tget (tab_L_law X) 286 = some (false, a_aload 0 287) ∧ tget (tab_L_law X) 287 = some (false, a_iload 3 288) ∧ tget (tab_L_law X) 288 = some (false, a_const 2 289) ∧ tget (tab_L_law X) 289 = some (false, a_add 290) ∧ tget (tab_L_law X) 290 = some (false, a_scr X 291) ∧ tget (tab_L_law X) 291 = some (false, a_aload 0 292) ∧ tget (tab_L_law X) 292 = some (false, a_iload 3 293) ∧ tget (tab_L_law X) 293 = some (false, a_const 3 294) ∧ tget (tab_L_law X) 294 = some (false, a_add 295) ∧ tget (tab_L_law X) 295 = some (false, a_scr X 296) ∧ tget (tab_L_law X) 296 = some (false, a_cv X M_L_law M_8_setFlag 8 4 299) ∧ tget (tab_L_law X) 299 = some (false, a_icmp 0 930 302) ∧ tget (tab_L_law X) 302 = some (false, a_const 0 303) ∧ tget (tab_L_law X) 303 = some (false, a_zret M_L_law) ∧ tget (tab_L_law X) 304 = some (false, a_aload 1 305) ∧ tget (tab_L_law X) 305 = some (false, a_aload 0 306) ∧ tget (tab_L_law X) 306 = some (false, a_iload 3 307) ∧ tget (tab_L_law X) 307 = some (false, a_const 1 308) ∧ tget (tab_L_law X) 308 = some (false, a_add 309) ∧ tget (tab_L_law X) 309 = some (false, a_scr X 310) ∧ tget (tab_L_law X) 310 = some (false, a_aload 0 311) ∧ tget (tab_L_law X) 311 = some (false, a_iload 3 312) ∧ tget (tab_L_law X) 312 = some (false, a_const 2 313) ∧ tget (tab_L_law X) 313 = some (false, a_add 314) ∧ tget (tab_L_law X) 314 = some (false, a_scr X 315) ∧ tget (tab_L_law X) 315 = some (false, a_aload 0 316) ∧ tget (tab_L_law X) 316 = some (false, a_iload 3 317) ∧ tget (tab_L_law X) 317 = some (false, a_const 3 318) ∧ tget (tab_L_law X) 318 = some (false, a_add 319) ∧ tget (tab_L_law X) 319 = some (false, a_scr X 320) ∧ tget (tab_L_law X) 320 = some (false, a_aload 0 321) ∧ tget (tab_L_law X) 321 = some (false, a_iload 3 322) ∧ tget (tab_L_law X) 322 = some (false, a_const 4 323) ∧ tget (tab_L_law X) 323 = some (false, a_add 324) ∧ tget (tab_L_law X) 324 = some (false, a_scr X 325) ∧ tget (tab_L_law X) 325 = some (false, a_cv X M_L_law M_7_addNote 7 5 328) ∧ tget (tab_L_law X) 328 = some (false, a_aload 2 329) ∧ tget (tab_L_law X) 329 = some (false, a_aload 0 330) ∧ tget (tab_L_law X) 330 = some (false, a_iload 3 331) ∧ tget (tab_L_law X) 331 = some (false, a_const 1 332) ∧ tget (tab_L_law X) 332 = some (false, a_add 333) ∧ tget (tab_L_law X) 333 = some (false, a_scr X 334) ∧ tget (tab_L_law X) 334 = some (false, a_aload 0 335) ∧ tget (tab_L_law X) 335 = some (false, a_iload 3 336) ∧ tget (tab_L_law X) 336 = some (false, a_const 2 337) ∧ tget (tab_L_law X) 337 = some (false, a_add 338) ∧ tget (tab_L_law X) 338 = some (false, a_scr X 339) ∧ tget (tab_L_law X) 339 = some (false, a_aload 0 340) ∧ tget (tab_L_law X) 340 = some (false, a_iload 3 341) ∧ tget (tab_L_law X) 341 = some (false, a_const 3 342) ∧ tget (tab_L_law X) 342 = some (false, a_add 343) ∧ tget (tab_L_law X) 343 = some (false, a_scr X 344) ∧ tget (tab_L_law X) 344 = some (false, a_aload 0 345) ∧ tget (tab_L_law X) 345 = some (false, a_iload 3 346) ∧ tget (tab_L_law X) 346 = some (false, a_const 4 347) ∧ tget (tab_L_law X) 347 = some (false, a_add 348) ∧ tget (tab_L_law X) 348 = some (false, a_scr X 349) ∧ tget (tab_L_law X) 349 = some (false, a_cv X M_L_law M_8_addNote 8 5 352) ∧ tget (tab_L_law X) 352 = some (false, a_icmp 0 930 355) ∧ tget (tab_L_law X) 355 = some (false, a_const 0 356) ∧ tget (tab_L_law X) 356 = some (false, a_zret M_L_law) ∧ tget (tab_L_law X) 357 = some (false, a_aload 1 358) ∧ tget (tab_L_law X) 358 = some (false, a_aload 0 359) ∧ tget (tab_L_law X) 359 = some (false, a_iload 3 360) ∧ tget (tab_L_law X) 360 = some (false, a_const 1 361) ∧ tget (tab_L_law X) 361 = some (false, a_add 362) ∧ tget (tab_L_law X) 362 = some (false, a_scr X 363) ∧ tget (tab_L_law X) 363 = some (false, a_aload 0 364) ∧ tget (tab_L_law X) 364 = some (false, a_iload 3 365) ∧ tget (tab_L_law X) 365 = some (false, a_const 2 366) ∧ tget (tab_L_law X) 366 = some (false, a_add 367) ∧ tget (tab_L_law X) 367 = some (false, a_scr X 368) ∧ tget (tab_L_law X) 368 = some (false, a_cv X M_L_law M_7_removeNote 7 3 371) ∧ tget (tab_L_law X) 371 = some (false, a_aload 2 372) ∧ tget (tab_L_law X) 372 = some (false, a_aload 0 373) ∧ tget (tab_L_law X) 373 = some (false, a_iload 3 374) ∧ tget (tab_L_law X) 374 = some (false, a_const 1 375) ∧ tget (tab_L_law X) 375 = some (false, a_add 376) ∧ tget (tab_L_law X) 376 = some (false, a_scr X 377) ∧ tget (tab_L_law X) 377 = some (false, a_aload 0 378) ∧ tget (tab_L_law X) 378 = some (false, a_iload 3 379) ∧ tget (tab_L_law X) 379 = some (false, a_const 2 380) ∧ tget (tab_L_law X) 380 = some (false, a_add 381) ∧ tget (tab_L_law X) 381 = some (false, a_scr X 382) ∧ tget (tab_L_law X) 382 = some (false, a_cv X M_L_law M_8_removeNote 8 3 385) ∧ tget (tab_L_law X) 385 = some (false, a_icmp 0 930 388) ∧ tget (tab_L_law X) 388 = some (false, a_const 0 389) ∧ tget (tab_L_law X) 389 = some (false, a_zret M_L_law) ∧ tget (tab_L_law X) 390 = some (false, a_aload 1 391) ∧ tget (tab_L_law X) 391 = some (false, a_aload 0 392) ∧ tget (tab_L_law X) 392 = some (false, a_iload 3 393) ∧ tget (tab_L_law X) 393 = some (false, a_const 1 394) ∧ tget (tab_L_law X) 394 = some (false, a_add 395) ∧ tget (tab_L_law X) 395 = some (false, a_scr X 396) ∧ tget (tab_L_law X) 396 = some (false, a_aload 0 397) ∧ tget (tab_L_law X) 397 = some (false, a_iload 3 398) ∧ tget (tab_L_law X) 398 = some (false, a_const 2 399) ∧ tget (tab_L_law X) 399 = some (false, a_add 400) ∧ tget (tab_L_law X) 400 = some (false, a_scr X 401) ∧ tget (tab_L_law X) 401 = some (false, a_cv X M_L_law M_7_set 7 3 404) ∧ tget (tab_L_law X) 404 = some (false, a_aload 2 405) ∧ tget (tab_L_law X) 405 = some (false, a_aload 0 406) ∧ tget (tab_L_law X) 406 = some (false, a_iload 3 407) ∧ tget (tab_L_law X) 407 = some (false, a_const 1 408) ∧ tget (tab_L_law X) 408 = some (false, a_add 409) ∧ tget (tab_L_law X) 409 = some (false, a_scr X 410) ∧ tget (tab_L_law X) 410 = some (false, a_aload 0 411) ∧ tget (tab_L_law X) 411 = some (false, a_iload 3 412) ∧ tget (tab_L_law X) 412 = some (false, a_const 2 413) ∧ tget (tab_L_law X) 413 = some (false, a_add 414) ∧ tget (tab_L_law X) 414 = some (false, a_scr X 415) ∧ tget (tab_L_law X) 415 = some (false, a_cv X M_L_law M_8_set 8 3 418) ∧ tget (tab_L_law X) 418 = some (false, a_icmp 0 930 421) ∧ tget (tab_L_law X) 421 = some (false, a_const 0 422) ∧ tget (tab_L_law X) 422 = some (false, a_zret M_L_law) ∧ tget (tab_L_law X) 423 = some (false, a_aload 1 424) ∧ tget (tab_L_law X) 424 = some (false, a_cv X M_L_law M_7_undo 7 1 427) ∧ tget (tab_L_law X) 427 = some (false, a_aload 2 428) ∧ tget (tab_L_law X) 428 = some (false, a_cv X M_L_law M_8_undo 8 1 431) ∧ tget (tab_L_law X) 431 = some (false, a_icmp 0 930 434) ∧ tget (tab_L_law X) 434 = some (false, a_const 0 435) ∧ tget (tab_L_law X) 435 = some (false, a_zret M_L_law) ∧ tget (tab_L_law X) 436 = some (false, a_aload 1 437) ∧ tget (tab_L_law X) 437 = some (false, a_cv X M_L_law M_7_pairCount 7 1 440) ∧ tget (tab_L_law X) 440 = some (false, a_aload 2 441) ∧ tget (tab_L_law X) 441 = some (false, a_cv X M_L_law M_8_pairCount 8 1 444) ∧ tget (tab_L_law X) 444 = some (false, a_icmp 0 930 447) ∧ tget (tab_L_law X) 447 = some (false, a_const 0 448) ∧ tget (tab_L_law X) 448 = some (false, a_zret M_L_law) ∧ tget (tab_L_law X) 449 = some (false, a_aload 1 450) ∧ tget (tab_L_law X) 450 = some (false, a_aload 0 451) ∧ tget (tab_L_law X) 451 = some (false, a_iload 3 452) ∧ tget (tab_L_law X) 452 = some (false, a_const 1 453) ∧ tget (tab_L_law X) 453 = some (false, a_add 454) ∧ tget (tab_L_law X) 454 = some (false, a_scr X 455) ∧ tget (tab_L_law X) 455 = some (false, a_aload 0 456) ∧ tget (tab_L_law X) 456 = some (false, a_iload 3 457) ∧ tget (tab_L_law X) 457 = some (false, a_const 2 458) ∧ tget (tab_L_law X) 458 = some (false, a_add 459) ∧ tget (tab_L_law X) 459 = some (false, a_scr X 460) ∧ tget (tab_L_law X) 460 = some (false, a_cv X M_L_law M_7_pairInfo 7 3 463) ∧ tget (tab_L_law X) 463 = some (false, a_aload 2 464) ∧ tget (tab_L_law X) 464 = some (false, a_aload 0 465) ∧ tget (tab_L_law X) 465 = some (false, a_iload 3 466) ∧ tget (tab_L_law X) 466 = some (false, a_const 1 467) ∧ tget (tab_L_law X) 467 = some (false, a_add 468) ∧ tget (tab_L_law X) 468 = some (false, a_scr X 469) ∧ tget (tab_L_law X) 469 = some (false, a_aload 0 470) ∧ tget (tab_L_law X) 470 = some (false, a_iload 3 471) ∧ tget (tab_L_law X) 471 = some (false, a_const 2 472) ∧ tget (tab_L_law X) 472 = some (false, a_add 473) ∧ tget (tab_L_law X) 473 = some (false, a_scr X 474) ∧ tget (tab_L_law X) 474 = some (false, a_cv X M_L_law M_8_pairInfo 8 3 477) ∧ tget (tab_L_law X) 477 = some (false, a_icmp 0 930 480) ∧ tget (tab_L_law X) 480 = some (false, a_const 0 481) ∧ tget (tab_L_law X) 481 = some (false, a_zret M_L_law) ∧ tget (tab_L_law X) 482 = some (false, a_aload 1 483) ∧ tget (tab_L_law X) 483 = some (false, a_aload 0 484) ∧ tget (tab_L_law X) 484 = some (false, a_iload 3 485) ∧ tget (tab_L_law X) 485 = some (false, a_const 1 486) ∧ tget (tab_L_law X) 486 = some (false, a_add 487) ∧ tget (tab_L_law X) 487 = some (false, a_scr X 488) ∧ tget (tab_L_law X) 488 = some (false, a_cv X M_L_law M_7_noteCount 7 2 491) ∧ tget (tab_L_law X) 491 = some (false, a_aload 2 492) ∧ tget (tab_L_law X) 492 = some (false, a_aload 0 493) ∧ tget (tab_L_law X) 493 = some (false, a_iload 3 494) ∧ tget (tab_L_law X) 494 = some (false, a_const 1 495) ∧ tget (tab_L_law X) 495 = some (false, a_add 496) ∧ tget (tab_L_law X) 496 = some (false, a_scr X 497) ∧ tget (tab_L_law X) 497 = some (false, a_cv X M_L_law M_8_noteCount 8 2 500) ∧ tget (tab_L_law X) 500 = some (false, a_icmp 0 930 503) ∧ tget (tab_L_law X) 503 = some (false, a_const 0 504) ∧ tget (tab_L_law X) 504 = some (false, a_zret M_L_law) ∧ tget (tab_L_law X) 505 = some (false, a_aload 1 506) ∧ tget (tab_L_law X) 506 = some (false, a_aload 0 507) ∧ tget (tab_L_law X) 507 = some (false, a_iload 3 508) ∧ tget (tab_L_law X) 508 = some (false, a_const 1 509) ∧ tget (tab_L_law X) 509 = some (false, a_add 510) ∧ tget (tab_L_law X) 510 = some (false, a_scr X 511) ∧ tget (tab_L_law X) 511 = some (false, a_aload 0 512) ∧ tget (tab_L_law X) 512 = some (false, a_iload 3 513) ∧ tget (tab_L_law X) 513 = some (false, a_const 2 514) ∧ tget (tab_L_law X) 514 = some (false, a_add 515) ∧ tget (tab_L_law X) 515 = some (false, a_scr X 516) ∧ tget (tab_L_law X) 516 = some (false, a_aload 0 517) ∧ tget (tab_L_law X) 517 = some (false, a_iload 3 518) ∧ tget (tab_L_law X) 518 = some (false, a_const 3 519) ∧ tget (tab_L_law X) 519 = some (false, a_add 520) ∧ tget (tab_L_law X) 520 = some (false, a_scr X 521) ∧ tget (tab_L_law X) 521 = some (false, a_cv X M_L_law M_7_noteInfo 7 4 524) ∧ tget (tab_L_law X) 524 = some (false, a_aload 2 525) ∧ tget (tab_L_law X) 525 = some (false, a_aload 0 526) ∧ tget (tab_L_law X) 526 = some (false, a_iload 3 527) ∧ tget (tab_L_law X) 527 = some (false, a_const 1 528) ∧ tget (tab_L_law X) 528 = some (false, a_add 529) ∧ tget (tab_L_law X) 529 = some (false, a_scr X 530) ∧ tget (tab_L_law X) 530 = some (false, a_aload 0 531) ∧ tget (tab_L_law X) 531 = some (false, a_iload 3 532) ∧ tget (tab_L_law X) 532 = some (false, a_const 2 533) ∧ tget (tab_L_law X) 533 = some (false, a_add 534) ∧ tget (tab_L_law X) 534 = some (false, a_scr X 535) ∧ tget (tab_L_law X) 535 = some (false, a_aload 0 536) ∧ tget (tab_L_law X) 536 = some (false, a_iload 3 537) ∧ tget (tab_L_law X) 537 = some (false, a_const 3 538) ∧ tget (tab_L_law X) 538 = some (false, a_add 539) ∧ tget (tab_L_law X) 539 = some (false, a_scr X 540) ∧ tget (tab_L_law X) 540 = some (false, a_cv X M_L_law M_8_noteInfo 8 4 543) ∧ tget (tab_L_law X) 543 = some (false, a_icmp 0 930 546) ∧ tget (tab_L_law X) 546 = some (false, a_const 0 547) ∧ tget (tab_L_law X) 547 = some (false, a_zret M_L_law) ∧ tget (tab_L_law X) 548 = some (false, a_aload 1 549) ∧ tget (tab_L_law X) 549 = some (false, a_cv X M_L_law M_7_spreadCount 7 1 552) ∧ tget (tab_L_law X) 552 = some (false, a_aload 2 553) ∧ tget (tab_L_law X) 553 = some (false, a_cv X M_L_law M_8_spreadCount 8 1 556) ∧ tget (tab_L_law X) 556 = some (false, a_icmp 0 930 559) ∧ tget (tab_L_law X) 559 = some (false, a_const 0 560) ∧ tget (tab_L_law X) 560 = some (false, a_zret M_L_law) ∧ tget (tab_L_law X) 561 = some (false, a_aload 1 562) ∧ tget (tab_L_law X) 562 = some (false, a_aload 0 563) ∧ tget (tab_L_law X) 563 = some (false, a_iload 3 564) ∧ tget (tab_L_law X) 564 = some (false, a_const 1 565) ∧ tget (tab_L_law X) 565 = some (false, a_add 566) ∧ tget (tab_L_law X) 566 = some (false, a_scr X 567) ∧ tget (tab_L_law X) 567 = some (false, a_cv X M_L_law M_7_segmentCount 7 2 570) ∧ tget (tab_L_law X) 570 = some (false, a_aload 2 571) ∧ tget (tab_L_law X) 571 = some (false, a_aload 0 572) ∧ tget (tab_L_law X) 572 = some (false, a_iload 3 573) ∧ tget (tab_L_law X) 573 = some (false, a_const 1 574) ∧ tget (tab_L_law X) 574 = some (false, a_add 575) ∧ tget (tab_L_law X) 575 = some (false, a_scr X 576) ∧ tget (tab_L_law X) 576 = some (false, a_cv X M_L_law M_8_segmentCount 8 2 579) ∧ tget (tab_L_law X) 579 = some (false, a_icmp 0 930 582) ∧ tget (tab_L_law X) 582 = some (false, a_const 0 583) ∧ tget (tab_L_law X) 583 = some (false, a_zret M_L_law) ∧ tget (tab_L_law X) 584 = some (false, a_aload 1 585) ∧ tget (tab_L_law X) 585 = some (false, a_aload 0 586) ∧ tget (tab_L_law X) 586 = some (false, a_iload 3 587) ∧ tget (tab_L_law X) 587 = some (false, a_const 1 588) ∧ tget (tab_L_law X) 588 = some (false, a_add 589) ∧ tget (tab_L_law X) 589 = some (false, a_scr X 590) ∧ tget (tab_L_law X) 590 = some (false, a_aload 0 591) ∧ tget (tab_L_law X) 591 = some (false, a_iload 3 592) ∧ tget (tab_L_law X) 592 = some (false, a_const 2 593) ∧ tget (tab_L_law X) 593 = some (false, a_add 594) ∧ tget (tab_L_law X) 594 = some (false, a_scr X 595) ∧ tget (tab_L_law X) 595 = some (false, a_aload 0 596) ∧ tget (tab_L_law X) 596 = some (false, a_iload 3 597) ∧ tget (tab_L_law X) 597 = some (false, a_const 3 598) ∧ tget (tab_L_law X) 598 = some (false, a_add 599) ∧ tget (tab_L_law X) 599 = some (false, a_scr X 600) ∧ tget (tab_L_law X) 600 = some (false, a_cv X M_L_law M_7_segmentInfo 7 4 603) ∧ tget (tab_L_law X) 603 = some (false, a_aload 2 604) ∧ tget (tab_L_law X) 604 = some (false, a_aload 0 605) ∧ tget (tab_L_law X) 605 = some (false, a_iload 3 606) ∧ tget (tab_L_law X) 606 = some (false, a_const 1 607) ∧ tget (tab_L_law X) 607 = some (false, a_add 608) ∧ tget (tab_L_law X) 608 = some (false, a_scr X 609) ∧ tget (tab_L_law X) 609 = some (false, a_aload 0 610) ∧ tget (tab_L_law X) 610 = some (false, a_iload 3 611) ∧ tget (tab_L_law X) 611 = some (false, a_const 2 612) ∧ tget (tab_L_law X) 612 = some (false, a_add 613) ∧ tget (tab_L_law X) 613 = some (false, a_scr X 614) ∧ tget (tab_L_law X) 614 = some (false, a_aload 0 615) ∧ tget (tab_L_law X) 615 = some (false, a_iload 3 616) ∧ tget (tab_L_law X) 616 = some (false, a_const 3 617) ∧ tget (tab_L_law X) 617 = some (false, a_add 618) ∧ tget (tab_L_law X) 618 = some (false, a_scr X 619) ∧ tget (tab_L_law X) 619 = some (false, a_cv X M_L_law M_8_segmentInfo 8 4 622) ∧ tget (tab_L_law X) 622 = some (false, a_icmp 0 930 625) ∧ tget (tab_L_law X) 625 = some (false, a_const 0 626) ∧ tget (tab_L_law X) 626 = some (false, a_zret M_L_law) ∧ tget (tab_L_law X) 627 = some (false, a_aload 1 628) ∧ tget (tab_L_law X) 628 = some (false, a_aload 0 629) ∧ tget (tab_L_law X) 629 = some (false, a_iload 3 630) ∧ tget (tab_L_law X) 630 = some (false, a_const 1 631) ∧ tget (tab_L_law X) 631 = some (false, a_add 632) ∧ tget (tab_L_law X) 632 = some (false, a_scr X 633) ∧ tget (tab_L_law X) 633 = some (false, a_aload 0 634) ∧ tget (tab_L_law X) 634 = some (false, a_iload 3 635) ∧ tget (tab_L_law X) 635 = some (false, a_const 2 636) ∧ tget (tab_L_law X) 636 = some (false, a_add 637) ∧ tget (tab_L_law X) 637 = some (false, a_scr X 638) ∧ tget (tab_L_law X) 638 = some (false, a_aload 0 639) ∧ tget (tab_L_law X) 639 = some (false, a_iload 3 640) ∧ tget (tab_L_law X) 640 = some (false, a_const 3 641) ∧ tget (tab_L_law X) 641 = some (false, a_add 642) ∧ tget (tab_L_law X) 642 = some (false, a_scr X 643) ∧ tget (tab_L_law X) 643 = some (false, a_cv X M_L_law M_7_pageInfo 7 4 646) ∧ tget (tab_L_law X) 646 = some (false, a_aload 2 647) ∧ tget (tab_L_law X) 647 = some (false, a_aload 0 648) ∧ tget (tab_L_law X) 648 = some (false, a_iload 3 649) ∧ tget (tab_L_law X) 649 = some (false, a_const 1 650) ∧ tget (tab_L_law X) 650 = some (false, a_add 651) ∧ tget (tab_L_law X) 651 = some (false, a_scr X 652) ∧ tget (tab_L_law X) 652 = some (false, a_aload 0 653) ∧ tget (tab_L_law X) 653 = some (false, a_iload 3 654) ∧ tget (tab_L_law X) 654 = some (false, a_const 2 655) ∧ tget (tab_L_law X) 655 = some (false, a_add 656) ∧ tget (tab_L_law X) 656 = some (false, a_scr X 657) ∧ tget (tab_L_law X) 657 = some (false, a_aload 0 658) ∧ tget (tab_L_law X) 658 = some (false, a_iload 3 659) ∧ tget (tab_L_law X) 659 = some (false, a_const 3 660) ∧ tget (tab_L_law X) 660 = some (false, a_add 661) ∧ tget (tab_L_law X) 661 = some (false, a_scr X 662) ∧ tget (tab_L_law X) 662 = some (false, a_cv X M_L_law M_8_pageInfo 8 4 665) ∧ tget (tab_L_law X) 665 = some (false, a_icmp 0 930 668) ∧ tget (tab_L_law X) 668 = some (false, a_const 0 669) ∧ tget (tab_L_law X) 669 = some (false, a_zret M_L_law) ∧ tget (tab_L_law X) 670 = some (false, a_aload 1 671) ∧ tget (tab_L_law X) 671 = some (false, a_aload 0 672) ∧ tget (tab_L_law X) 672 = some (false, a_iload 3 673) ∧ tget (tab_L_law X) 673 = some (false, a_const 1 674) ∧ tget (tab_L_law X) 674 = some (false, a_add 675) ∧ tget (tab_L_law X) 675 = some (false, a_scr X 676) ∧ tget (tab_L_law X) 676 = some (false, a_cv X M_L_law M_7_isOverfull 7 2 679) ∧ tget (tab_L_law X) 679 = some (false, a_aload 2 680) ∧ tget (tab_L_law X) 680 = some (false, a_aload 0 681) ∧ tget (tab_L_law X) 681 = some (false, a_iload 3 682) ∧ tget (tab_L_law X) 682 = some (false, a_const 1 683) ∧ tget (tab_L_law X) 683 = some (false, a_add 684) ∧ tget (tab_L_law X) 684 = some (false, a_scr X 685) ∧ tget (tab_L_law X) 685 = some (false, a_cv X M_L_law M_8_isOverfull 8 2 688) ∧ tget (tab_L_law X) 688 = some (false, a_icmp 0 930 691) ∧ tget (tab_L_law X) 691 = some (false, a_const 0 692) ∧ tget (tab_L_law X) 692 = some (false, a_zret M_L_law) ∧ tget (tab_L_law X) 693 = some (false, a_aload 1 694) ∧ tget (tab_L_law X) 694 = some (false, a_aload 0 695) ∧ tget (tab_L_law X) 695 = some (false, a_iload 3 696) ∧ tget (tab_L_law X) 696 = some (false, a_const 1 697) ∧ tget (tab_L_law X) 697 = some (false, a_add 698) ∧ tget (tab_L_law X) 698 = some (false, a_scr X 699) ∧ tget (tab_L_law X) 699 = some (false, a_aload 0 700) ∧ tget (tab_L_law X) 700 = some (false, a_iload 3 701) ∧ tget (tab_L_law X) 701 = some (false, a_const 2 702) ∧ tget (tab_L_law X) 702 = some (false, a_add 703) ∧ tget (tab_L_law X) 703 = some (false, a_scr X 704) ∧ tget (tab_L_law X) 704 = some (false, a_aload 0 705) ∧ tget (tab_L_law X) 705 = some (false, a_iload 3 706) ∧ tget (tab_L_law X) 706 = some (false, a_const 3 707) ∧ tget (tab_L_law X) 707 = some (false, a_add 708) ∧ tget (tab_L_law X) 708 = some (false, a_scr X 709) ∧ tget (tab_L_law X) 709 = some (false, a_cv X M_L_law M_7_spreadOf 7 4 712) ∧ tget (tab_L_law X) 712 = some (false, a_aload 2 713) ∧ tget (tab_L_law X) 713 = some (false, a_aload 0 714) ∧ tget (tab_L_law X) 714 = some (false, a_iload 3 715) ∧ tget (tab_L_law X) 715 = some (false, a_const 1 716) ∧ tget (tab_L_law X) 716 = some (false, a_add 717) ∧ tget (tab_L_law X) 717 = some (false, a_scr X 718) ∧ tget (tab_L_law X) 718 = some (false, a_aload 0 719) ∧ tget (tab_L_law X) 719 = some (false, a_iload 3 720) ∧ tget (tab_L_law X) 720 = some (false, a_const 2 721) ∧ tget (tab_L_law X) 721 = some (false, a_add 722) ∧ tget (tab_L_law X) 722 = some (false, a_scr X 723) ∧ tget (tab_L_law X) 723 = some (false, a_aload 0 724) ∧ tget (tab_L_law X) 724 = some (false, a_iload 3 725) ∧ tget (tab_L_law X) 725 = some (false, a_const 3 726) ∧ tget (tab_L_law X) 726 = some (false, a_add 727) ∧ tget (tab_L_law X) 727 = some (false, a_scr X 728) ∧ tget (tab_L_law X) 728 = some (false, a_cv X M_L_law M_8_spreadOf 8 4 731) ∧ tget (tab_L_law X) 731 = some (false, a_icmp 0 930 734) ∧ tget (tab_L_law X) 734 = some (false, a_const 0 735) ∧ tget (tab_L_law X) 735 = some (false, a_zret M_L_law) ∧ tget (tab_L_law X) 736 = some (false, a_aload 1 737) ∧ tget (tab_L_law X) 737 = some (false, a_aload 0 738) ∧ tget (tab_L_law X) 738 = some (false, a_iload 3 739) ∧ tget (tab_L_law X) 739 = some (false, a_const 1 740) ∧ tget (tab_L_law X) 740 = some (false, a_add 741) ∧ tget (tab_L_law X) 741 = some (false, a_scr X 742) ∧ tget (tab_L_law X) 742 = some (false, a_aload 0 743) ∧ tget (tab_L_law X) 743 = some (false, a_iload 3 744) ∧ tget (tab_L_law X) 744 = some (false, a_const 2 745) ∧ tget (tab_L_law X) 745 = some (false, a_add 746) ∧ tget (tab_L_law X) 746 = some (false, a_scr X 747) ∧ tget (tab_L_law X) 747 = some (false, a_aload 0 748) ∧ tget (tab_L_law X) 748 = some (false, a_iload 3 749) ∧ tget (tab_L_law X) 749 = some (false, a_const 3 750) ∧ tget (tab_L_law X) 750 = some (false, a_add 751) ∧ tget (tab_L_law X) 751 = some (false, a_scr X 752) ∧ tget (tab_L_law X) 752 = some (false, a_cv X M_L_law M_7_rowOf 7 4 755) ∧ tget (tab_L_law X) 755 = some (false, a_aload 2 756) ∧ tget (tab_L_law X) 756 = some (false, a_aload 0 757) ∧ tget (tab_L_law X) 757 = some (false, a_iload 3 758) ∧ tget (tab_L_law X) 758 = some (false, a_const 1 759) ∧ tget (tab_L_law X) 759 = some (false, a_add 760) ∧ tget (tab_L_law X) 760 = some (false, a_scr X 761) ∧ tget (tab_L_law X) 761 = some (false, a_aload 0 762) ∧ tget (tab_L_law X) 762 = some (false, a_iload 3 763) ∧ tget (tab_L_law X) 763 = some (false, a_const 2 764) ∧ tget (tab_L_law X) 764 = some (false, a_add 765) ∧ tget (tab_L_law X) 765 = some (false, a_scr X 766) ∧ tget (tab_L_law X) 766 = some (false, a_aload 0 767) ∧ tget (tab_L_law X) 767 = some (false, a_iload 3 768) ∧ tget (tab_L_law X) 768 = some (false, a_const 3 769) ∧ tget (tab_L_law X) 769 = some (false, a_add 770) ∧ tget (tab_L_law X) 770 = some (false, a_scr X 771) ∧ tget (tab_L_law X) 771 = some (false, a_cv X M_L_law M_8_rowOf 8 4 774) ∧ tget (tab_L_law X) 774 = some (false, a_icmp 0 930 777) ∧ tget (tab_L_law X) 777 = some (false, a_const 0 778) ∧ tget (tab_L_law X) 778 = some (false, a_zret M_L_law) ∧ tget (tab_L_law X) 779 = some (false, a_aload 1 780) ∧ tget (tab_L_law X) 780 = some (false, a_aload 0 781) ∧ tget (tab_L_law X) 781 = some (false, a_iload 3 782) ∧ tget (tab_L_law X) 782 = some (false, a_const 1 783) ∧ tget (tab_L_law X) 783 = some (false, a_add 784) ∧ tget (tab_L_law X) 784 = some (false, a_scr X 785) ∧ tget (tab_L_law X) 785 = some (false, a_aload 0 786) ∧ tget (tab_L_law X) 786 = some (false, a_iload 3 787) ∧ tget (tab_L_law X) 787 = some (false, a_const 2 788) ∧ tget (tab_L_law X) 788 = some (false, a_add 789) ∧ tget (tab_L_law X) 789 = some (false, a_scr X 790) ∧ tget (tab_L_law X) 790 = some (false, a_aload 0 791) ∧ tget (tab_L_law X) 791 = some (false, a_iload 3 792) ∧ tget (tab_L_law X) 792 = some (false, a_const 3 793) ∧ tget (tab_L_law X) 793 = some (false, a_add 794) ∧ tget (tab_L_law X) 794 = some (false, a_scr X 795) ∧ tget (tab_L_law X) 795 = some (false, a_cv X M_L_law M_7_shown 7 4 798) ∧ tget (tab_L_law X) 798 = some (false, a_aload 2 799) ∧ tget (tab_L_law X) 799 = some (false, a_aload 0 800) ∧ tget (tab_L_law X) 800 = some (false, a_iload 3 801) ∧ tget (tab_L_law X) 801 = some (false, a_const 1 802) ∧ tget (tab_L_law X) 802 = some (false, a_add 803) ∧ tget (tab_L_law X) 803 = some (false, a_scr X 804) ∧ tget (tab_L_law X) 804 = some (false, a_aload 0 805) ∧ tget (tab_L_law X) 805 = some (false, a_iload 3 806) ∧ tget (tab_L_law X) 806 = some (false, a_const 2 807) ∧ tget (tab_L_law X) 807 = some (false, a_add 808) ∧ tget (tab_L_law X) 808 = some (false, a_scr X 809) ∧ tget (tab_L_law X) 809 = some (false, a_aload 0 810) ∧ tget (tab_L_law X) 810 = some (false, a_iload 3 811) ∧ tget (tab_L_law X) 811 = some (false, a_const 3 812) ∧ tget (tab_L_law X) 812 = some (false, a_add 813) ∧ tget (tab_L_law X) 813 = some (false, a_scr X 814) ∧ tget (tab_L_law X) 814 = some (false, a_cv X M_L_law M_8_shown 8 4 817) ∧ tget (tab_L_law X) 817 = some (false, a_icmp 0 930 820) ∧ tget (tab_L_law X) 820 = some (false, a_const 0 821) ∧ tget (tab_L_law X) 821 = some (false, a_zret M_L_law) ∧ tget (tab_L_law X) 822 = some (false, a_aload 1 823) ∧ tget (tab_L_law X) 823 = some (false, a_cv X M_L_law M_7_cost 7 1 826) ∧ tget (tab_L_law X) 826 = some (false, a_aload 2 827) ∧ tget (tab_L_law X) 827 = some (false, a_cv X M_L_law M_8_cost 8 1 830) ∧ tget (tab_L_law X) 830 = some (false, a_icmp 0 930 833) ∧ tget (tab_L_law X) 833 = some (false, a_const 0 834) ∧ tget (tab_L_law X) 834 = some (false, a_zret M_L_law) ∧ tget (tab_L_law X) 835 = some (false, a_aload 1 836) ∧ tget (tab_L_law X) 836 = some (false, a_cv X M_L_law M_7_bestCost 7 1 839) ∧ tget (tab_L_law X) 839 = some (false, a_aload 2 840) ∧ tget (tab_L_law X) 840 = some (false, a_cv X M_L_law M_8_bestCost 8 1 843) ∧ tget (tab_L_law X) 843 = some (false, a_icmp 0 930 846) ∧ tget (tab_L_law X) 846 = some (false, a_const 0 847) ∧ tget (tab_L_law X) 847 = some (false, a_zret M_L_law) ∧ tget (tab_L_law X) 848 = some (false, a_aload 1 849) ∧ tget (tab_L_law X) 849 = some (false, a_aload 0 850) ∧ tget (tab_L_law X) 850 = some (false, a_iload 3 851) ∧ tget (tab_L_law X) 851 = some (false, a_const 1 852) ∧ tget (tab_L_law X) 852 = some (false, a_add 853) ∧ tget (tab_L_law X) 853 = some (false, a_scr X 854) ∧ tget (tab_L_law X) 854 = some (false, a_cv X M_L_law M_7_bestBreak 7 2 857) ∧ tget (tab_L_law X) 857 = some (false, a_aload 2 858) ∧ tget (tab_L_law X) 858 = some (false, a_aload 0 859) ∧ tget (tab_L_law X) 859 = some (false, a_iload 3 860) ∧ tget (tab_L_law X) 860 = some (false, a_const 1 861) ∧ tget (tab_L_law X) 861 = some (false, a_add 862) ∧ tget (tab_L_law X) 862 = some (false, a_scr X 863) ∧ tget (tab_L_law X) 863 = some (false, a_cv X M_L_law M_8_bestBreak 8 2 866) ∧ tget (tab_L_law X) 866 = some (false, a_icmp 0 930 869) ∧ tget (tab_L_law X) 869 = some (false, a_const 0 870) ∧ tget (tab_L_law X) 870 = some (false, a_zret M_L_law) ∧ tget (tab_L_law X) 871 = some (false, a_aload 1 872) ∧ tget (tab_L_law X) 872 = some (false, a_aload 0 873) ∧ tget (tab_L_law X) 873 = some (false, a_iload 3 874) ∧ tget (tab_L_law X) 874 = some (false, a_const 1 875) ∧ tget (tab_L_law X) 875 = some (false, a_add 876) ∧ tget (tab_L_law X) 876 = some (false, a_scr X 877) ∧ tget (tab_L_law X) 877 = some (false, a_cv X M_L_law M_7_leastHeight 7 2 880) ∧ tget (tab_L_law X) 880 = some (false, a_aload 2 881) ∧ tget (tab_L_law X) 881 = some (false, a_aload 0 882) ∧ tget (tab_L_law X) 882 = some (false, a_iload 3 883) ∧ tget (tab_L_law X) 883 = some (false, a_const 1 884) ∧ tget (tab_L_law X) 884 = some (false, a_add 885) ∧ tget (tab_L_law X) 885 = some (false, a_scr X 886) ∧ tget (tab_L_law X) 886 = some (false, a_cv X M_L_law M_8_leastHeight 8 2 889) ∧ tget (tab_L_law X) 889 = some (false, a_icmp 0 930 892) ∧ tget (tab_L_law X) 892 = some (false, a_const 0 893) ∧ tget (tab_L_law X) 893 = some (false, a_zret M_L_law) ∧ tget (tab_L_law X) 894 = some (false, a_aload 1 895) ∧ tget (tab_L_law X) 895 = some (false, a_aload 0 896) ∧ tget (tab_L_law X) 896 = some (false, a_iload 3 897) ∧ tget (tab_L_law X) 897 = some (false, a_const 1 898) ∧ tget (tab_L_law X) 898 = some (false, a_add 899) ∧ tget (tab_L_law X) 899 = some (false, a_scr X 900) ∧ tget (tab_L_law X) 900 = some (false, a_cv X M_L_law M_7_overfullWith 7 2 903) ∧ tget (tab_L_law X) 903 = some (false, a_aload 2 904) ∧ tget (tab_L_law X) 904 = some (false, a_aload 0 905) ∧ tget (tab_L_law X) 905 = some (false, a_iload 3 906) ∧ tget (tab_L_law X) 906 = some (false, a_const 1 907) ∧ tget (tab_L_law X) 907 = some (false, a_add 908) ∧ tget (tab_L_law X) 908 = some (false, a_scr X 909) ∧ tget (tab_L_law X) 909 = some (false, a_cv X M_L_law M_8_overfullWith 8 2 912) ∧ tget (tab_L_law X) 912 = some (false, a_icmp 0 930 915) ∧ tget (tab_L_law X) 915 = some (false, a_const 0 916) ∧ tget (tab_L_law X) 916 = some (false, a_zret M_L_law) ∧ tget (tab_L_law X) 917 = some (false, a_aload 1 918) ∧ tget (tab_L_law X) 918 = some (false, a_cv X M_L_law M_7_splitPairs 7 1 921) ∧ tget (tab_L_law X) 921 = some (false, a_aload 2 922) ∧ tget (tab_L_law X) 922 = some (false, a_cv X M_L_law M_8_splitPairs 8 1 925) ∧ tget (tab_L_law X) 925 = some (false, a_icmp 0 930 928) ∧ tget (tab_L_law X) 928 = some (false, a_const 0 929) ∧ tget (tab_L_law X) 929 = some (false, a_zret M_L_law) ∧ tget (tab_L_law X) 930 = some (false, a_iinc 3 5 933) ∧ tget (tab_L_law X) 933 = some (false, a_goto 18) ∧ tget (tab_L_law X) 936 = some (false, a_const 1 937) ∧ tget (tab_L_law X) 937 = some (false, a_zret M_L_law) := ⟨rfl, rfl, rfl, rfl, rfl, rfl, rfl, rfl, rfl, rfl, rfl, rfl, rfl, rfl, rfl, rfl, rfl, rfl, rfl, rfl, rfl, rfl, rfl, rfl, rfl, rfl, rfl, rfl, rfl, rfl, rfl, rfl, rfl, rfl, rfl, rfl, rfl, rfl, rfl, rfl, rfl, rfl, rfl, rfl, rfl, rfl, rfl, rfl, rfl, rfl, rfl, rfl, rfl, rfl, rfl, rfl, rfl, rfl, rfl, rfl, rfl, rfl, rfl, rfl, rfl, rfl, rfl, rfl, rfl, rfl, rfl, rfl, rfl, rfl, rfl, rfl, rfl, rfl, rfl, rfl, rfl, rfl, rfl, rfl, rfl, rfl, rfl, rfl, rfl, rfl, rfl, rfl, rfl, rfl, rfl, rfl, rfl, rfl, rfl, rfl, rfl, rfl, rfl, rfl, rfl, rfl, rfl, rfl, rfl, rfl, rfl, rfl, rfl, rfl, rfl, rfl, rfl, rfl, rfl, rfl, rfl, rfl, rfl, rfl, rfl, rfl, rfl, rfl, rfl, rfl, rfl, rfl, rfl, rfl, rfl, rfl, rfl, rfl, rfl, rfl, rfl, rfl, rfl, rfl, rfl, rfl, rfl, rfl, rfl, rfl, rfl, rfl, rfl, rfl, rfl, rfl, rfl, rfl, rfl, rfl, rfl, rfl, rfl, rfl, rfl, rfl, rfl, rfl, rfl, rfl, rfl, rfl, rfl, rfl, rfl, rfl, rfl, rfl, rfl, rfl, rfl, rfl, rfl, rfl, rfl, rfl, rfl, rfl, rfl, rfl, rfl, rfl, rfl, rfl, rfl, rfl, rfl, rfl, rfl, rfl, rfl, rfl, rfl, rfl, rfl, rfl, rfl, rfl, rfl, rfl, rfl, rfl, rfl, rfl, rfl, rfl, rfl, rfl, rfl, rfl, rfl, rfl, rfl, rfl, rfl, rfl, rfl, rfl, rfl, rfl, rfl, rfl, rfl, rfl, rfl, rfl, rfl, rfl, rfl, rfl, rfl, rfl, rfl, rfl, rfl, rfl, rfl, rfl, rfl, rfl, rfl, rfl, rfl, rfl, rfl, rfl, rfl, rfl, rfl, rfl, rfl, rfl, rfl, rfl, rfl, rfl, rfl, rfl, rfl, rfl, rfl, rfl, rfl, rfl, rfl, rfl, rfl, rfl, rfl, rfl, rfl, rfl, rfl, rfl, rfl, rfl, rfl, rfl, rfl, rfl, rfl, rfl, rfl, rfl, rfl, rfl, rfl, rfl, rfl, rfl, rfl, rfl, rfl, rfl, rfl, rfl, rfl, rfl, rfl, rfl, rfl, rfl, rfl, rfl, rfl, rfl, rfl, rfl, rfl, rfl, rfl, rfl, rfl, rfl, rfl, rfl, rfl, rfl, rfl, rfl, rfl, rfl, rfl, rfl, rfl, rfl, rfl, rfl, rfl, rfl, rfl, rfl, rfl, rfl, rfl, rfl, rfl, rfl, rfl, rfl, rfl, rfl, rfl, rfl, rfl, rfl, rfl, rfl, rfl, rfl, rfl, rfl, rfl, rfl, rfl, rfl, rfl, rfl, rfl, rfl, rfl, rfl, rfl, rfl, rfl, rfl, rfl, rfl, rfl, rfl, rfl, rfl, rfl, rfl, rfl, rfl, rfl, rfl, rfl, rfl, rfl, rfl, rfl, rfl, rfl, rfl, rfl, rfl, rfl, rfl, rfl, rfl, rfl, rfl, rfl, rfl, rfl, rfl, rfl, rfl, rfl, rfl, rfl, rfl, rfl, rfl, rfl, rfl, rfl, rfl, rfl, rfl, rfl, rfl, rfl, rfl, rfl, rfl, rfl, rfl, rfl, rfl, rfl, rfl, rfl, rfl, rfl, rfl, rfl, rfl, rfl, rfl, rfl, rfl, rfl, rfl, rfl, rfl, rfl, rfl, rfl, rfl, rfl, rfl, rfl, rfl, rfl, rfl, rfl, rfl, rfl, rfl, rfl, rfl, rfl, rfl, rfl, rfl, rfl, rfl, rfl, rfl, rfl, rfl, rfl, rfl, rfl, rfl, rfl, rfl, rfl, rfl, rfl, rfl, rfl, rfl, rfl, rfl, rfl, rfl, rfl, rfl, rfl, rfl, rfl, rfl, rfl, rfl, rfl, rfl, rfl, rfl, rfl, rfl, rfl, rfl, rfl, rfl, rfl, rfl, rfl, rfl, rfl, rfl, rfl, rfl, rfl, rfl, rfl, rfl, rfl, rfl, rfl, rfl, rfl, rfl, rfl, rfl, rfl, rfl, rfl, rfl, rfl, rfl, rfl, rfl, rfl, rfl, rfl, rfl, rfl, rfl, rfl, rfl, rfl, rfl, rfl, rfl, rfl, rfl, rfl, rfl, rfl, rfl, rfl, rfl, rfl, rfl, rfl, rfl, rfl, rfl, rfl, rfl, rfl, rfl, rfl, rfl, rfl, rfl, rfl, rfl, rfl, rfl, rfl, rfl, rfl, rfl, rfl, rfl, rfl, rfl, rfl, rfl, rfl, rfl, rfl, rfl, rfl, rfl, rfl, rfl, rfl, rfl, rfl, rfl, rfl, rfl, rfl, rfl, rfl, rfl, rfl, rfl, rfl, rfl, rfl, rfl, rfl, rfl, rfl, rfl, rfl, rfl, rfl, rfl, rfl, rfl, rfl, rfl, rfl, rfl, rfl, rfl, rfl, rfl, rfl, rfl, rfl, rfl, rfl, rfl, rfl, rfl, rfl, rfl, rfl, rfl, rfl, rfl, rfl, rfl, rfl, rfl, rfl, rfl, rfl, rfl⟩
theorem tok_L_law (X : XT) : TabOK X M_L_law (tab_L_law X) := by
  unfold tab_L_law
  refine tok_cons (snd_new (C := RX7) (T := TX7) (N := 4) (ty := tyX7) dL_law_0 rfl inX7 wclL_7 wib_7 wn_7 tyX7_ok rfl (fun j hj => by match j, hj with | 0, _ => exact Or.inr ⟨rfl, rfl⟩ | 1, _ => exact Or.inr ⟨rfl, rfl⟩ | 2, _ => exact Or.inr ⟨rfl, rfl⟩ | 3, _ => exact Or.inr ⟨rfl, rfl⟩) rfl) ?_
  refine tok_cons (snd_dup dL_law_3 rfl) ?_
  refine tok_cons (snd_ci dL_law_4 mok_7_init rfl ⟨wi_7_init, rfl, Or.inl wmL_9⟩ pn_7_init (by decide) rfl) ?_
  refine tok_cons (snd_astore_n dL_law_7 rfl rfl (by decide)) ?_
  refine tok_cons (snd_new (C := RX8) (T := TX8) (N := 21) (ty := tyX8) dL_law_8 rfl inX8 wclL_10 wib_8 wn_8 tyX8_ok rfl (fun j hj => by match j, hj with | 0, _ => exact Or.inr ⟨rfl, rfl⟩ | 1, _ => exact Or.inr ⟨rfl, rfl⟩ | 2, _ => exact Or.inl ⟨rfl, rfl⟩ | 3, _ => exact Or.inr ⟨rfl, rfl⟩ | 4, _ => exact Or.inr ⟨rfl, rfl⟩ | 5, _ => exact Or.inl ⟨rfl, rfl⟩ | 6, _ => exact Or.inr ⟨rfl, rfl⟩ | 7, _ => exact Or.inr ⟨rfl, rfl⟩ | 8, _ => exact Or.inr ⟨rfl, rfl⟩ | 9, _ => exact Or.inr ⟨rfl, rfl⟩ | 10, _ => exact Or.inl ⟨rfl, rfl⟩ | 11, _ => exact Or.inr ⟨rfl, rfl⟩ | 12, _ => exact Or.inr ⟨rfl, rfl⟩ | 13, _ => exact Or.inr ⟨rfl, rfl⟩ | 14, _ => exact Or.inr ⟨rfl, rfl⟩ | 15, _ => exact Or.inr ⟨rfl, rfl⟩ | 16, _ => exact Or.inr ⟨rfl, rfl⟩ | 17, _ => exact Or.inl ⟨rfl, rfl⟩ | 18, _ => exact Or.inr ⟨rfl, rfl⟩ | 19, _ => exact Or.inr ⟨rfl, rfl⟩ | 20, _ => exact Or.inr ⟨rfl, rfl⟩ | _ + 21, h => exact absurd h (by omega)) rfl) ?_
  refine tok_cons (snd_dup dL_law_11 rfl) ?_
  refine tok_cons (snd_ci dL_law_12 mok_8_init rfl ⟨wi_8_init, rfl, Or.inl wmL_12⟩ pn_8_init (by decide) rfl) ?_
  refine tok_cons (snd_astore_n dL_law_15 rfl rfl (by decide)) ?_
  refine tok_cons (snd_iconst dL_law_16 rfl (inr_d rfl) rfl) ?_
  refine tok_cons (snd_istore_n dL_law_17 rfl rfl (by decide)) ?_
  refine tok_cons (snd_iload_n dL_law_18 rfl rfl) ?_
  refine tok_cons (snd_aload_n dL_law_19 rfl rfl) ?_
  refine tok_cons (snd_scl dL_law_20 rfl) ?_
  refine tok_cons (snd_iconst dL_law_21 rfl (inr_d rfl) rfl) ?_
  refine tok_cons (snd_sub dL_law_22 rfl) ?_
  refine tok_cons (snd_icmp_gt dL_law_23 (by decide) rfl) ?_
  refine tok_cons (snd_aload_n dL_law_26 rfl rfl) ?_
  refine tok_cons (snd_iload_n dL_law_27 rfl rfl) ?_
  refine tok_cons (snd_scr dL_law_28 rfl) ?_
  refine tok_cons (snd_bipush dL_law_29 (by decide) (inr_d rfl) rfl) ?_
  refine tok_cons (snd_and dL_law_31 rfl) ?_
  refine tok_cons (snd_tsw dL_law_32 (by decide) rfl rfl) ?_
  refine tok_cons (snd_aload_n dL_law_152 rfl rfl) ?_
  refine tok_cons (snd_aload_n dL_law_153 rfl rfl) ?_
  refine tok_cons (snd_iload_n dL_law_154 rfl rfl) ?_
  refine tok_cons (snd_iconst dL_law_155 rfl (inr_d rfl) rfl) ?_
  refine tok_cons (snd_add dL_law_156 rfl) ?_
  refine tok_cons (snd_scr dL_law_157 rfl) ?_
  refine tok_cons (snd_aload_n dL_law_158 rfl rfl) ?_
  refine tok_cons (snd_iload_n dL_law_159 rfl rfl) ?_
  refine tok_cons (snd_iconst dL_law_160 rfl (inr_d rfl) rfl) ?_
  refine tok_cons (snd_add dL_law_161 rfl) ?_
  refine tok_cons (snd_scr dL_law_162 rfl) ?_
  refine tok_cons (snd_aload_n dL_law_163 rfl rfl) ?_
  refine tok_cons (snd_iload_n dL_law_164 rfl rfl) ?_
  refine tok_cons (snd_iconst dL_law_165 rfl (inr_d rfl) rfl) ?_
  refine tok_cons (snd_add dL_law_166 rfl) ?_
  refine tok_cons (snd_scr dL_law_167 rfl) ?_
  refine tok_cons (snd_cv dL_law_168 mok_7_insert ⟨wmL_13, wi_7_insert, wl_7_insert⟩ (rc := (RX7, TX7, 4)) rfl rfl pn_7_insert (by decide) ⟨rfl, rfl⟩ rfl) ?_
  refine tok_cons (snd_aload_n dL_law_171 rfl rfl) ?_
  refine tok_cons (snd_aload_n dL_law_172 rfl rfl) ?_
  refine tok_cons (snd_iload_n dL_law_173 rfl rfl) ?_
  refine tok_cons (snd_iconst dL_law_174 rfl (inr_d rfl) rfl) ?_
  refine tok_cons (snd_add dL_law_175 rfl) ?_
  refine tok_cons (snd_scr dL_law_176 rfl) ?_
  refine tok_cons (snd_aload_n dL_law_177 rfl rfl) ?_
  refine tok_cons (snd_iload_n dL_law_178 rfl rfl) ?_
  refine tok_cons (snd_iconst dL_law_179 rfl (inr_d rfl) rfl) ?_
  refine tok_cons (snd_add dL_law_180 rfl) ?_
  refine tok_cons (snd_scr dL_law_181 rfl) ?_
  refine tok_cons (snd_aload_n dL_law_182 rfl rfl) ?_
  refine tok_cons (snd_iload_n dL_law_183 rfl rfl) ?_
  refine tok_cons (snd_iconst dL_law_184 rfl (inr_d rfl) rfl) ?_
  refine tok_cons (snd_add dL_law_185 rfl) ?_
  refine tok_cons (snd_scr dL_law_186 rfl) ?_
  refine tok_cons (snd_cv dL_law_187 mok_8_insert ⟨wmL_17, wi_8_insert, wl_8_insert⟩ (rc := (RX8, TX8, 21)) rfl rfl pn_8_insert (by decide) ⟨rfl, rfl⟩ rfl) ?_
  refine tok_cons (snd_icmp_eq dL_law_190 (by decide) rfl) ?_
  refine tok_cons (snd_iconst dL_law_193 rfl (inr_d rfl) rfl) ?_
  refine tok_cons (snd_zret dL_law_194 rfl) ?_
  refine tok_cons (snd_aload_n dL_law_195 rfl rfl) ?_
  refine tok_cons (snd_aload_n dL_law_196 rfl rfl) ?_
  refine tok_cons (snd_iload_n dL_law_197 rfl rfl) ?_
  refine tok_cons (snd_iconst dL_law_198 rfl (inr_d rfl) rfl) ?_
  refine tok_cons (snd_add dL_law_199 rfl) ?_
  refine tok_cons (snd_scr dL_law_200 rfl) ?_
  refine tok_cons (snd_cv dL_law_201 mok_7_remove ⟨wmL_18, wi_7_remove, wl_7_remove⟩ (rc := (RX7, TX7, 4)) rfl rfl pn_7_remove (by decide) ⟨rfl, rfl⟩ rfl) ?_
  refine tok_cons (snd_aload_n dL_law_204 rfl rfl) ?_
  refine tok_cons (snd_aload_n dL_law_205 rfl rfl) ?_
  refine tok_cons (snd_iload_n dL_law_206 rfl rfl) ?_
  refine tok_cons (snd_iconst dL_law_207 rfl (inr_d rfl) rfl) ?_
  refine tok_cons (snd_add dL_law_208 rfl) ?_
  refine tok_cons (snd_scr dL_law_209 rfl) ?_
  refine tok_cons (snd_cv dL_law_210 mok_8_remove ⟨wmL_22, wi_8_remove, wl_8_remove⟩ (rc := (RX8, TX8, 21)) rfl rfl pn_8_remove (by decide) ⟨rfl, rfl⟩ rfl) ?_
  refine tok_cons (snd_icmp_eq dL_law_213 (by decide) rfl) ?_
  refine tok_cons (snd_iconst dL_law_216 rfl (inr_d rfl) rfl) ?_
  refine tok_cons (snd_zret dL_law_217 rfl) ?_
  refine tok_cons (snd_aload_n dL_law_218 rfl rfl) ?_
  refine tok_cons (snd_aload_n dL_law_219 rfl rfl) ?_
  refine tok_cons (snd_iload_n dL_law_220 rfl rfl) ?_
  refine tok_cons (snd_iconst dL_law_221 rfl (inr_d rfl) rfl) ?_
  refine tok_cons (snd_add dL_law_222 rfl) ?_
  refine tok_cons (snd_scr dL_law_223 rfl) ?_
  refine tok_cons (snd_aload_n dL_law_224 rfl rfl) ?_
  refine tok_cons (snd_iload_n dL_law_225 rfl rfl) ?_
  refine tok_cons (snd_iconst dL_law_226 rfl (inr_d rfl) rfl) ?_
  refine tok_cons (snd_add dL_law_227 rfl) ?_
  refine tok_cons (snd_scr dL_law_228 rfl) ?_
  refine tok_cons (snd_aload_n dL_law_229 rfl rfl) ?_
  refine tok_cons (snd_iload_n dL_law_230 rfl rfl) ?_
  refine tok_cons (snd_iconst dL_law_231 rfl (inr_d rfl) rfl) ?_
  refine tok_cons (snd_add dL_law_232 rfl) ?_
  refine tok_cons (snd_scr dL_law_233 rfl) ?_
  refine tok_cons (snd_cv dL_law_234 mok_7_setLines ⟨wmL_23, wi_7_setLines, wl_7_setLines⟩ (rc := (RX7, TX7, 4)) rfl rfl pn_7_setLines (by decide) ⟨rfl, rfl⟩ rfl) ?_
  refine tok_cons (snd_aload_n dL_law_237 rfl rfl) ?_
  refine tok_cons (snd_aload_n dL_law_238 rfl rfl) ?_
  refine tok_cons (snd_iload_n dL_law_239 rfl rfl) ?_
  refine tok_cons (snd_iconst dL_law_240 rfl (inr_d rfl) rfl) ?_
  refine tok_cons (snd_add dL_law_241 rfl) ?_
  refine tok_cons (snd_scr dL_law_242 rfl) ?_
  refine tok_cons (snd_aload_n dL_law_243 rfl rfl) ?_
  refine tok_cons (snd_iload_n dL_law_244 rfl rfl) ?_
  refine tok_cons (snd_iconst dL_law_245 rfl (inr_d rfl) rfl) ?_
  refine tok_cons (snd_add dL_law_246 rfl) ?_
  refine tok_cons (snd_scr dL_law_247 rfl) ?_
  refine tok_cons (snd_aload_n dL_law_248 rfl rfl) ?_
  refine tok_cons (snd_iload_n dL_law_249 rfl rfl) ?_
  refine tok_cons (snd_iconst dL_law_250 rfl (inr_d rfl) rfl) ?_
  refine tok_cons (snd_add dL_law_251 rfl) ?_
  refine tok_cons (snd_scr dL_law_252 rfl) ?_
  refine tok_cons (snd_cv dL_law_253 mok_8_setLines ⟨wmL_26, wi_8_setLines, wl_8_setLines⟩ (rc := (RX8, TX8, 21)) rfl rfl pn_8_setLines (by decide) ⟨rfl, rfl⟩ rfl) ?_
  refine tok_cons (snd_icmp_eq dL_law_256 (by decide) rfl) ?_
  refine tok_cons (snd_iconst dL_law_259 rfl (inr_d rfl) rfl) ?_
  refine tok_cons (snd_zret dL_law_260 rfl) ?_
  refine tok_cons (snd_aload_n dL_law_261 rfl rfl) ?_
  refine tok_cons (snd_aload_n dL_law_262 rfl rfl) ?_
  refine tok_cons (snd_iload_n dL_law_263 rfl rfl) ?_
  refine tok_cons (snd_iconst dL_law_264 rfl (inr_d rfl) rfl) ?_
  refine tok_cons (snd_add dL_law_265 rfl) ?_
  refine tok_cons (snd_scr dL_law_266 rfl) ?_
  refine tok_cons (snd_aload_n dL_law_267 rfl rfl) ?_
  refine tok_cons (snd_iload_n dL_law_268 rfl rfl) ?_
  refine tok_cons (snd_iconst dL_law_269 rfl (inr_d rfl) rfl) ?_
  refine tok_cons (snd_add dL_law_270 rfl) ?_
  refine tok_cons (snd_scr dL_law_271 rfl) ?_
  refine tok_cons (snd_aload_n dL_law_272 rfl rfl) ?_
  refine tok_cons (snd_iload_n dL_law_273 rfl rfl) ?_
  refine tok_cons (snd_iconst dL_law_274 rfl (inr_d rfl) rfl) ?_
  refine tok_cons (snd_add dL_law_275 rfl) ?_
  refine tok_cons (snd_scr dL_law_276 rfl) ?_
  refine tok_cons (snd_cv dL_law_277 mok_7_setFlag ⟨wmL_27, wi_7_setFlag, wl_7_setFlag⟩ (rc := (RX7, TX7, 4)) rfl rfl pn_7_setFlag (by decide) ⟨rfl, rfl⟩ rfl) ?_
  refine tok_cons (snd_aload_n dL_law_280 rfl rfl) ?_
  refine tok_cons (snd_aload_n dL_law_281 rfl rfl) ?_
  refine tok_cons (snd_iload_n dL_law_282 rfl rfl) ?_
  refine tok_cons (snd_iconst dL_law_283 rfl (inr_d rfl) rfl) ?_
  refine tok_cons (snd_add dL_law_284 rfl) ?_
  refine tok_cons (snd_scr dL_law_285 rfl) ?_
  refine tok_cons (snd_aload_n dL_law_286 rfl rfl) ?_
  refine tok_cons (snd_iload_n dL_law_287 rfl rfl) ?_
  refine tok_cons (snd_iconst dL_law_288 rfl (inr_d rfl) rfl) ?_
  refine tok_cons (snd_add dL_law_289 rfl) ?_
  refine tok_cons (snd_scr dL_law_290 rfl) ?_
  refine tok_cons (snd_aload_n dL_law_291 rfl rfl) ?_
  refine tok_cons (snd_iload_n dL_law_292 rfl rfl) ?_
  refine tok_cons (snd_iconst dL_law_293 rfl (inr_d rfl) rfl) ?_
  refine tok_cons (snd_add dL_law_294 rfl) ?_
  refine tok_cons (snd_scr dL_law_295 rfl) ?_
  refine tok_cons (snd_cv dL_law_296 mok_8_setFlag ⟨wmL_30, wi_8_setFlag, wl_8_setFlag⟩ (rc := (RX8, TX8, 21)) rfl rfl pn_8_setFlag (by decide) ⟨rfl, rfl⟩ rfl) ?_
  refine tok_cons (snd_icmp_eq dL_law_299 (by decide) rfl) ?_
  refine tok_cons (snd_iconst dL_law_302 rfl (inr_d rfl) rfl) ?_
  refine tok_cons (snd_zret dL_law_303 rfl) ?_
  refine tok_cons (snd_aload_n dL_law_304 rfl rfl) ?_
  refine tok_cons (snd_aload_n dL_law_305 rfl rfl) ?_
  refine tok_cons (snd_iload_n dL_law_306 rfl rfl) ?_
  refine tok_cons (snd_iconst dL_law_307 rfl (inr_d rfl) rfl) ?_
  refine tok_cons (snd_add dL_law_308 rfl) ?_
  refine tok_cons (snd_scr dL_law_309 rfl) ?_
  refine tok_cons (snd_aload_n dL_law_310 rfl rfl) ?_
  refine tok_cons (snd_iload_n dL_law_311 rfl rfl) ?_
  refine tok_cons (snd_iconst dL_law_312 rfl (inr_d rfl) rfl) ?_
  refine tok_cons (snd_add dL_law_313 rfl) ?_
  refine tok_cons (snd_scr dL_law_314 rfl) ?_
  refine tok_cons (snd_aload_n dL_law_315 rfl rfl) ?_
  refine tok_cons (snd_iload_n dL_law_316 rfl rfl) ?_
  refine tok_cons (snd_iconst dL_law_317 rfl (inr_d rfl) rfl) ?_
  refine tok_cons (snd_add dL_law_318 rfl) ?_
  refine tok_cons (snd_scr dL_law_319 rfl) ?_
  refine tok_cons (snd_aload_n dL_law_320 rfl rfl) ?_
  refine tok_cons (snd_iload_n dL_law_321 rfl rfl) ?_
  refine tok_cons (snd_iconst dL_law_322 rfl (inr_d rfl) rfl) ?_
  refine tok_cons (snd_add dL_law_323 rfl) ?_
  refine tok_cons (snd_scr dL_law_324 rfl) ?_
  refine tok_cons (snd_cv dL_law_325 mok_7_addNote ⟨wmL_31, wi_7_addNote, wl_7_addNote⟩ (rc := (RX7, TX7, 4)) rfl rfl pn_7_addNote (by decide) ⟨rfl, rfl⟩ rfl) ?_
  refine tok_cons (snd_aload_n dL_law_328 rfl rfl) ?_
  refine tok_cons (snd_aload_n dL_law_329 rfl rfl) ?_
  refine tok_cons (snd_iload_n dL_law_330 rfl rfl) ?_
  refine tok_cons (snd_iconst dL_law_331 rfl (inr_d rfl) rfl) ?_
  refine tok_cons (snd_add dL_law_332 rfl) ?_
  refine tok_cons (snd_scr dL_law_333 rfl) ?_
  refine tok_cons (snd_aload_n dL_law_334 rfl rfl) ?_
  refine tok_cons (snd_iload_n dL_law_335 rfl rfl) ?_
  refine tok_cons (snd_iconst dL_law_336 rfl (inr_d rfl) rfl) ?_
  refine tok_cons (snd_add dL_law_337 rfl) ?_
  refine tok_cons (snd_scr dL_law_338 rfl) ?_
  refine tok_cons (snd_aload_n dL_law_339 rfl rfl) ?_
  refine tok_cons (snd_iload_n dL_law_340 rfl rfl) ?_
  refine tok_cons (snd_iconst dL_law_341 rfl (inr_d rfl) rfl) ?_
  refine tok_cons (snd_add dL_law_342 rfl) ?_
  refine tok_cons (snd_scr dL_law_343 rfl) ?_
  refine tok_cons (snd_aload_n dL_law_344 rfl rfl) ?_
  refine tok_cons (snd_iload_n dL_law_345 rfl rfl) ?_
  refine tok_cons (snd_iconst dL_law_346 rfl (inr_d rfl) rfl) ?_
  refine tok_cons (snd_add dL_law_347 rfl) ?_
  refine tok_cons (snd_scr dL_law_348 rfl) ?_
  refine tok_cons (snd_cv dL_law_349 mok_8_addNote ⟨wmL_35, wi_8_addNote, wl_8_addNote⟩ (rc := (RX8, TX8, 21)) rfl rfl pn_8_addNote (by decide) ⟨rfl, rfl⟩ rfl) ?_
  refine tok_cons (snd_icmp_eq dL_law_352 (by decide) rfl) ?_
  refine tok_cons (snd_iconst dL_law_355 rfl (inr_d rfl) rfl) ?_
  refine tok_cons (snd_zret dL_law_356 rfl) ?_
  refine tok_cons (snd_aload_n dL_law_357 rfl rfl) ?_
  refine tok_cons (snd_aload_n dL_law_358 rfl rfl) ?_
  refine tok_cons (snd_iload_n dL_law_359 rfl rfl) ?_
  refine tok_cons (snd_iconst dL_law_360 rfl (inr_d rfl) rfl) ?_
  refine tok_cons (snd_add dL_law_361 rfl) ?_
  refine tok_cons (snd_scr dL_law_362 rfl) ?_
  refine tok_cons (snd_aload_n dL_law_363 rfl rfl) ?_
  refine tok_cons (snd_iload_n dL_law_364 rfl rfl) ?_
  refine tok_cons (snd_iconst dL_law_365 rfl (inr_d rfl) rfl) ?_
  refine tok_cons (snd_add dL_law_366 rfl) ?_
  refine tok_cons (snd_scr dL_law_367 rfl) ?_
  refine tok_cons (snd_cv dL_law_368 mok_7_removeNote ⟨wmL_36, wi_7_removeNote, wl_7_removeNote⟩ (rc := (RX7, TX7, 4)) rfl rfl pn_7_removeNote (by decide) ⟨rfl, rfl⟩ rfl) ?_
  refine tok_cons (snd_aload_n dL_law_371 rfl rfl) ?_
  refine tok_cons (snd_aload_n dL_law_372 rfl rfl) ?_
  refine tok_cons (snd_iload_n dL_law_373 rfl rfl) ?_
  refine tok_cons (snd_iconst dL_law_374 rfl (inr_d rfl) rfl) ?_
  refine tok_cons (snd_add dL_law_375 rfl) ?_
  refine tok_cons (snd_scr dL_law_376 rfl) ?_
  refine tok_cons (snd_aload_n dL_law_377 rfl rfl) ?_
  refine tok_cons (snd_iload_n dL_law_378 rfl rfl) ?_
  refine tok_cons (snd_iconst dL_law_379 rfl (inr_d rfl) rfl) ?_
  refine tok_cons (snd_add dL_law_380 rfl) ?_
  refine tok_cons (snd_scr dL_law_381 rfl) ?_
  refine tok_cons (snd_cv dL_law_382 mok_8_removeNote ⟨wmL_40, wi_8_removeNote, wl_8_removeNote⟩ (rc := (RX8, TX8, 21)) rfl rfl pn_8_removeNote (by decide) ⟨rfl, rfl⟩ rfl) ?_
  refine tok_cons (snd_icmp_eq dL_law_385 (by decide) rfl) ?_
  refine tok_cons (snd_iconst dL_law_388 rfl (inr_d rfl) rfl) ?_
  refine tok_cons (snd_zret dL_law_389 rfl) ?_
  refine tok_cons (snd_aload_n dL_law_390 rfl rfl) ?_
  refine tok_cons (snd_aload_n dL_law_391 rfl rfl) ?_
  refine tok_cons (snd_iload_n dL_law_392 rfl rfl) ?_
  refine tok_cons (snd_iconst dL_law_393 rfl (inr_d rfl) rfl) ?_
  refine tok_cons (snd_add dL_law_394 rfl) ?_
  refine tok_cons (snd_scr dL_law_395 rfl) ?_
  refine tok_cons (snd_aload_n dL_law_396 rfl rfl) ?_
  refine tok_cons (snd_iload_n dL_law_397 rfl rfl) ?_
  refine tok_cons (snd_iconst dL_law_398 rfl (inr_d rfl) rfl) ?_
  refine tok_cons (snd_add dL_law_399 rfl) ?_
  refine tok_cons (snd_scr dL_law_400 rfl) ?_
  refine tok_cons (snd_cv dL_law_401 mok_7_set ⟨wmL_41, wi_7_set, wl_7_set⟩ (rc := (RX7, TX7, 4)) rfl rfl pn_7_set (by decide) ⟨rfl, rfl⟩ rfl) ?_
  refine tok_cons (snd_aload_n dL_law_404 rfl rfl) ?_
  refine tok_cons (snd_aload_n dL_law_405 rfl rfl) ?_
  refine tok_cons (snd_iload_n dL_law_406 rfl rfl) ?_
  refine tok_cons (snd_iconst dL_law_407 rfl (inr_d rfl) rfl) ?_
  refine tok_cons (snd_add dL_law_408 rfl) ?_
  refine tok_cons (snd_scr dL_law_409 rfl) ?_
  refine tok_cons (snd_aload_n dL_law_410 rfl rfl) ?_
  refine tok_cons (snd_iload_n dL_law_411 rfl rfl) ?_
  refine tok_cons (snd_iconst dL_law_412 rfl (inr_d rfl) rfl) ?_
  refine tok_cons (snd_add dL_law_413 rfl) ?_
  refine tok_cons (snd_scr dL_law_414 rfl) ?_
  refine tok_cons (snd_cv dL_law_415 mok_8_set ⟨wmL_44, wi_8_set, wl_8_set⟩ (rc := (RX8, TX8, 21)) rfl rfl pn_8_set (by decide) ⟨rfl, rfl⟩ rfl) ?_
  refine tok_cons (snd_icmp_eq dL_law_418 (by decide) rfl) ?_
  refine tok_cons (snd_iconst dL_law_421 rfl (inr_d rfl) rfl) ?_
  refine tok_cons (snd_zret dL_law_422 rfl) ?_
  refine tok_cons (snd_aload_n dL_law_423 rfl rfl) ?_
  refine tok_cons (snd_cv dL_law_424 mok_7_undo ⟨wmL_45, wi_7_undo, wl_7_undo⟩ (rc := (RX7, TX7, 4)) rfl rfl pn_7_undo (by decide) ⟨rfl, rfl⟩ rfl) ?_
  refine tok_cons (snd_aload_n dL_law_427 rfl rfl) ?_
  refine tok_cons (snd_cv dL_law_428 mok_8_undo ⟨wmL_49, wi_8_undo, wl_8_undo⟩ (rc := (RX8, TX8, 21)) rfl rfl pn_8_undo (by decide) ⟨rfl, rfl⟩ rfl) ?_
  refine tok_cons (snd_icmp_eq dL_law_431 (by decide) rfl) ?_
  refine tok_cons (snd_iconst dL_law_434 rfl (inr_d rfl) rfl) ?_
  refine tok_cons (snd_zret dL_law_435 rfl) ?_
  refine tok_cons (snd_aload_n dL_law_436 rfl rfl) ?_
  refine tok_cons (snd_cv dL_law_437 mok_7_pairCount ⟨wmL_50, wi_7_pairCount, wl_7_pairCount⟩ (rc := (RX7, TX7, 4)) rfl rfl pn_7_pairCount (by decide) ⟨rfl, rfl⟩ rfl) ?_
  refine tok_cons (snd_aload_n dL_law_440 rfl rfl) ?_
  refine tok_cons (snd_cv dL_law_441 mok_8_pairCount ⟨wmL_53, wi_8_pairCount, wl_8_pairCount⟩ (rc := (RX8, TX8, 21)) rfl rfl pn_8_pairCount (by decide) ⟨rfl, rfl⟩ rfl) ?_
  refine tok_cons (snd_icmp_eq dL_law_444 (by decide) rfl) ?_
  refine tok_cons (snd_iconst dL_law_447 rfl (inr_d rfl) rfl) ?_
  refine tok_cons (snd_zret dL_law_448 rfl) ?_
  refine tok_cons (snd_aload_n dL_law_449 rfl rfl) ?_
  refine tok_cons (snd_aload_n dL_law_450 rfl rfl) ?_
  refine tok_cons (snd_iload_n dL_law_451 rfl rfl) ?_
  refine tok_cons (snd_iconst dL_law_452 rfl (inr_d rfl) rfl) ?_
  refine tok_cons (snd_add dL_law_453 rfl) ?_
  refine tok_cons (snd_scr dL_law_454 rfl) ?_
  refine tok_cons (snd_aload_n dL_law_455 rfl rfl) ?_
  refine tok_cons (snd_iload_n dL_law_456 rfl rfl) ?_
  refine tok_cons (snd_iconst dL_law_457 rfl (inr_d rfl) rfl) ?_
  refine tok_cons (snd_add dL_law_458 rfl) ?_
  refine tok_cons (snd_scr dL_law_459 rfl) ?_
  refine tok_cons (snd_cv dL_law_460 mok_7_pairInfo ⟨wmL_54, wi_7_pairInfo, wl_7_pairInfo⟩ (rc := (RX7, TX7, 4)) rfl rfl pn_7_pairInfo (by decide) ⟨rfl, rfl⟩ rfl) ?_
  refine tok_cons (snd_aload_n dL_law_463 rfl rfl) ?_
  refine tok_cons (snd_aload_n dL_law_464 rfl rfl) ?_
  refine tok_cons (snd_iload_n dL_law_465 rfl rfl) ?_
  refine tok_cons (snd_iconst dL_law_466 rfl (inr_d rfl) rfl) ?_
  refine tok_cons (snd_add dL_law_467 rfl) ?_
  refine tok_cons (snd_scr dL_law_468 rfl) ?_
  refine tok_cons (snd_aload_n dL_law_469 rfl rfl) ?_
  refine tok_cons (snd_iload_n dL_law_470 rfl rfl) ?_
  refine tok_cons (snd_iconst dL_law_471 rfl (inr_d rfl) rfl) ?_
  refine tok_cons (snd_add dL_law_472 rfl) ?_
  refine tok_cons (snd_scr dL_law_473 rfl) ?_
  refine tok_cons (snd_cv dL_law_474 mok_8_pairInfo ⟨wmL_57, wi_8_pairInfo, wl_8_pairInfo⟩ (rc := (RX8, TX8, 21)) rfl rfl pn_8_pairInfo (by decide) ⟨rfl, rfl⟩ rfl) ?_
  refine tok_cons (snd_icmp_eq dL_law_477 (by decide) rfl) ?_
  refine tok_cons (snd_iconst dL_law_480 rfl (inr_d rfl) rfl) ?_
  refine tok_cons (snd_zret dL_law_481 rfl) ?_
  refine tok_cons (snd_aload_n dL_law_482 rfl rfl) ?_
  refine tok_cons (snd_aload_n dL_law_483 rfl rfl) ?_
  refine tok_cons (snd_iload_n dL_law_484 rfl rfl) ?_
  refine tok_cons (snd_iconst dL_law_485 rfl (inr_d rfl) rfl) ?_
  refine tok_cons (snd_add dL_law_486 rfl) ?_
  refine tok_cons (snd_scr dL_law_487 rfl) ?_
  refine tok_cons (snd_cv dL_law_488 mok_7_noteCount ⟨wmL_58, wi_7_noteCount, wl_7_noteCount⟩ (rc := (RX7, TX7, 4)) rfl rfl pn_7_noteCount (by decide) ⟨rfl, rfl⟩ rfl) ?_
  refine tok_cons (snd_aload_n dL_law_491 rfl rfl) ?_
  refine tok_cons (snd_aload_n dL_law_492 rfl rfl) ?_
  refine tok_cons (snd_iload_n dL_law_493 rfl rfl) ?_
  refine tok_cons (snd_iconst dL_law_494 rfl (inr_d rfl) rfl) ?_
  refine tok_cons (snd_add dL_law_495 rfl) ?_
  refine tok_cons (snd_scr dL_law_496 rfl) ?_
  refine tok_cons (snd_cv dL_law_497 mok_8_noteCount ⟨wmL_61, wi_8_noteCount, wl_8_noteCount⟩ (rc := (RX8, TX8, 21)) rfl rfl pn_8_noteCount (by decide) ⟨rfl, rfl⟩ rfl) ?_
  refine tok_cons (snd_icmp_eq dL_law_500 (by decide) rfl) ?_
  refine tok_cons (snd_iconst dL_law_503 rfl (inr_d rfl) rfl) ?_
  refine tok_cons (snd_zret dL_law_504 rfl) ?_
  refine tok_cons (snd_aload_n dL_law_505 rfl rfl) ?_
  refine tok_cons (snd_aload_n dL_law_506 rfl rfl) ?_
  refine tok_cons (snd_iload_n dL_law_507 rfl rfl) ?_
  refine tok_cons (snd_iconst dL_law_508 rfl (inr_d rfl) rfl) ?_
  refine tok_cons (snd_add dL_law_509 rfl) ?_
  refine tok_cons (snd_scr dL_law_510 rfl) ?_
  refine tok_cons (snd_aload_n dL_law_511 rfl rfl) ?_
  refine tok_cons (snd_iload_n dL_law_512 rfl rfl) ?_
  refine tok_cons (snd_iconst dL_law_513 rfl (inr_d rfl) rfl) ?_
  refine tok_cons (snd_add dL_law_514 rfl) ?_
  refine tok_cons (snd_scr dL_law_515 rfl) ?_
  refine tok_cons (snd_aload_n dL_law_516 rfl rfl) ?_
  refine tok_cons (snd_iload_n dL_law_517 rfl rfl) ?_
  refine tok_cons (snd_iconst dL_law_518 rfl (inr_d rfl) rfl) ?_
  refine tok_cons (snd_add dL_law_519 rfl) ?_
  refine tok_cons (snd_scr dL_law_520 rfl) ?_
  refine tok_cons (snd_cv dL_law_521 mok_7_noteInfo ⟨wmL_62, wi_7_noteInfo, wl_7_noteInfo⟩ (rc := (RX7, TX7, 4)) rfl rfl pn_7_noteInfo (by decide) ⟨rfl, rfl⟩ rfl) ?_
  refine tok_cons (snd_aload_n dL_law_524 rfl rfl) ?_
  refine tok_cons (snd_aload_n dL_law_525 rfl rfl) ?_
  refine tok_cons (snd_iload_n dL_law_526 rfl rfl) ?_
  refine tok_cons (snd_iconst dL_law_527 rfl (inr_d rfl) rfl) ?_
  refine tok_cons (snd_add dL_law_528 rfl) ?_
  refine tok_cons (snd_scr dL_law_529 rfl) ?_
  refine tok_cons (snd_aload_n dL_law_530 rfl rfl) ?_
  refine tok_cons (snd_iload_n dL_law_531 rfl rfl) ?_
  refine tok_cons (snd_iconst dL_law_532 rfl (inr_d rfl) rfl) ?_
  refine tok_cons (snd_add dL_law_533 rfl) ?_
  refine tok_cons (snd_scr dL_law_534 rfl) ?_
  refine tok_cons (snd_aload_n dL_law_535 rfl rfl) ?_
  refine tok_cons (snd_iload_n dL_law_536 rfl rfl) ?_
  refine tok_cons (snd_iconst dL_law_537 rfl (inr_d rfl) rfl) ?_
  refine tok_cons (snd_add dL_law_538 rfl) ?_
  refine tok_cons (snd_scr dL_law_539 rfl) ?_
  refine tok_cons (snd_cv dL_law_540 mok_8_noteInfo ⟨wmL_65, wi_8_noteInfo, wl_8_noteInfo⟩ (rc := (RX8, TX8, 21)) rfl rfl pn_8_noteInfo (by decide) ⟨rfl, rfl⟩ rfl) ?_
  refine tok_cons (snd_icmp_eq dL_law_543 (by decide) rfl) ?_
  refine tok_cons (snd_iconst dL_law_546 rfl (inr_d rfl) rfl) ?_
  refine tok_cons (snd_zret dL_law_547 rfl) ?_
  refine tok_cons (snd_aload_n dL_law_548 rfl rfl) ?_
  refine tok_cons (snd_cv dL_law_549 mok_7_spreadCount ⟨wmL_66, wi_7_spreadCount, wl_7_spreadCount⟩ (rc := (RX7, TX7, 4)) rfl rfl pn_7_spreadCount (by decide) ⟨rfl, rfl⟩ rfl) ?_
  refine tok_cons (snd_aload_n dL_law_552 rfl rfl) ?_
  refine tok_cons (snd_cv dL_law_553 mok_8_spreadCount ⟨wmL_69, wi_8_spreadCount, wl_8_spreadCount⟩ (rc := (RX8, TX8, 21)) rfl rfl pn_8_spreadCount (by decide) ⟨rfl, rfl⟩ rfl) ?_
  refine tok_cons (snd_icmp_eq dL_law_556 (by decide) rfl) ?_
  refine tok_cons (snd_iconst dL_law_559 rfl (inr_d rfl) rfl) ?_
  refine tok_cons (snd_zret dL_law_560 rfl) ?_
  refine tok_cons (snd_aload_n dL_law_561 rfl rfl) ?_
  refine tok_cons (snd_aload_n dL_law_562 rfl rfl) ?_
  refine tok_cons (snd_iload_n dL_law_563 rfl rfl) ?_
  refine tok_cons (snd_iconst dL_law_564 rfl (inr_d rfl) rfl) ?_
  refine tok_cons (snd_add dL_law_565 rfl) ?_
  refine tok_cons (snd_scr dL_law_566 rfl) ?_
  refine tok_cons (snd_cv dL_law_567 mok_7_segmentCount ⟨wmL_70, wi_7_segmentCount, wl_7_segmentCount⟩ (rc := (RX7, TX7, 4)) rfl rfl pn_7_segmentCount (by decide) ⟨rfl, rfl⟩ rfl) ?_
  refine tok_cons (snd_aload_n dL_law_570 rfl rfl) ?_
  refine tok_cons (snd_aload_n dL_law_571 rfl rfl) ?_
  refine tok_cons (snd_iload_n dL_law_572 rfl rfl) ?_
  refine tok_cons (snd_iconst dL_law_573 rfl (inr_d rfl) rfl) ?_
  refine tok_cons (snd_add dL_law_574 rfl) ?_
  refine tok_cons (snd_scr dL_law_575 rfl) ?_
  refine tok_cons (snd_cv dL_law_576 mok_8_segmentCount ⟨wmL_73, wi_8_segmentCount, wl_8_segmentCount⟩ (rc := (RX8, TX8, 21)) rfl rfl pn_8_segmentCount (by decide) ⟨rfl, rfl⟩ rfl) ?_
  refine tok_cons (snd_icmp_eq dL_law_579 (by decide) rfl) ?_
  refine tok_cons (snd_iconst dL_law_582 rfl (inr_d rfl) rfl) ?_
  refine tok_cons (snd_zret dL_law_583 rfl) ?_
  refine tok_cons (snd_aload_n dL_law_584 rfl rfl) ?_
  refine tok_cons (snd_aload_n dL_law_585 rfl rfl) ?_
  refine tok_cons (snd_iload_n dL_law_586 rfl rfl) ?_
  refine tok_cons (snd_iconst dL_law_587 rfl (inr_d rfl) rfl) ?_
  refine tok_cons (snd_add dL_law_588 rfl) ?_
  refine tok_cons (snd_scr dL_law_589 rfl) ?_
  refine tok_cons (snd_aload_n dL_law_590 rfl rfl) ?_
  refine tok_cons (snd_iload_n dL_law_591 rfl rfl) ?_
  refine tok_cons (snd_iconst dL_law_592 rfl (inr_d rfl) rfl) ?_
  refine tok_cons (snd_add dL_law_593 rfl) ?_
  refine tok_cons (snd_scr dL_law_594 rfl) ?_
  refine tok_cons (snd_aload_n dL_law_595 rfl rfl) ?_
  refine tok_cons (snd_iload_n dL_law_596 rfl rfl) ?_
  refine tok_cons (snd_iconst dL_law_597 rfl (inr_d rfl) rfl) ?_
  refine tok_cons (snd_add dL_law_598 rfl) ?_
  refine tok_cons (snd_scr dL_law_599 rfl) ?_
  refine tok_cons (snd_cv dL_law_600 mok_7_segmentInfo ⟨wmL_74, wi_7_segmentInfo, wl_7_segmentInfo⟩ (rc := (RX7, TX7, 4)) rfl rfl pn_7_segmentInfo (by decide) ⟨rfl, rfl⟩ rfl) ?_
  refine tok_cons (snd_aload_n dL_law_603 rfl rfl) ?_
  refine tok_cons (snd_aload_n dL_law_604 rfl rfl) ?_
  refine tok_cons (snd_iload_n dL_law_605 rfl rfl) ?_
  refine tok_cons (snd_iconst dL_law_606 rfl (inr_d rfl) rfl) ?_
  refine tok_cons (snd_add dL_law_607 rfl) ?_
  refine tok_cons (snd_scr dL_law_608 rfl) ?_
  refine tok_cons (snd_aload_n dL_law_609 rfl rfl) ?_
  refine tok_cons (snd_iload_n dL_law_610 rfl rfl) ?_
  refine tok_cons (snd_iconst dL_law_611 rfl (inr_d rfl) rfl) ?_
  refine tok_cons (snd_add dL_law_612 rfl) ?_
  refine tok_cons (snd_scr dL_law_613 rfl) ?_
  refine tok_cons (snd_aload_n dL_law_614 rfl rfl) ?_
  refine tok_cons (snd_iload_n dL_law_615 rfl rfl) ?_
  refine tok_cons (snd_iconst dL_law_616 rfl (inr_d rfl) rfl) ?_
  refine tok_cons (snd_add dL_law_617 rfl) ?_
  refine tok_cons (snd_scr dL_law_618 rfl) ?_
  refine tok_cons (snd_cv dL_law_619 mok_8_segmentInfo ⟨wmL_77, wi_8_segmentInfo, wl_8_segmentInfo⟩ (rc := (RX8, TX8, 21)) rfl rfl pn_8_segmentInfo (by decide) ⟨rfl, rfl⟩ rfl) ?_
  refine tok_cons (snd_icmp_eq dL_law_622 (by decide) rfl) ?_
  refine tok_cons (snd_iconst dL_law_625 rfl (inr_d rfl) rfl) ?_
  refine tok_cons (snd_zret dL_law_626 rfl) ?_
  refine tok_cons (snd_aload_n dL_law_627 rfl rfl) ?_
  refine tok_cons (snd_aload_n dL_law_628 rfl rfl) ?_
  refine tok_cons (snd_iload_n dL_law_629 rfl rfl) ?_
  refine tok_cons (snd_iconst dL_law_630 rfl (inr_d rfl) rfl) ?_
  refine tok_cons (snd_add dL_law_631 rfl) ?_
  refine tok_cons (snd_scr dL_law_632 rfl) ?_
  refine tok_cons (snd_aload_n dL_law_633 rfl rfl) ?_
  refine tok_cons (snd_iload_n dL_law_634 rfl rfl) ?_
  refine tok_cons (snd_iconst dL_law_635 rfl (inr_d rfl) rfl) ?_
  refine tok_cons (snd_add dL_law_636 rfl) ?_
  refine tok_cons (snd_scr dL_law_637 rfl) ?_
  refine tok_cons (snd_aload_n dL_law_638 rfl rfl) ?_
  refine tok_cons (snd_iload_n dL_law_639 rfl rfl) ?_
  refine tok_cons (snd_iconst dL_law_640 rfl (inr_d rfl) rfl) ?_
  refine tok_cons (snd_add dL_law_641 rfl) ?_
  refine tok_cons (snd_scr dL_law_642 rfl) ?_
  refine tok_cons (snd_cv dL_law_643 mok_7_pageInfo ⟨wmL_78, wi_7_pageInfo, wl_7_pageInfo⟩ (rc := (RX7, TX7, 4)) rfl rfl pn_7_pageInfo (by decide) ⟨rfl, rfl⟩ rfl) ?_
  refine tok_cons (snd_aload_n dL_law_646 rfl rfl) ?_
  refine tok_cons (snd_aload_n dL_law_647 rfl rfl) ?_
  refine tok_cons (snd_iload_n dL_law_648 rfl rfl) ?_
  refine tok_cons (snd_iconst dL_law_649 rfl (inr_d rfl) rfl) ?_
  refine tok_cons (snd_add dL_law_650 rfl) ?_
  refine tok_cons (snd_scr dL_law_651 rfl) ?_
  refine tok_cons (snd_aload_n dL_law_652 rfl rfl) ?_
  refine tok_cons (snd_iload_n dL_law_653 rfl rfl) ?_
  refine tok_cons (snd_iconst dL_law_654 rfl (inr_d rfl) rfl) ?_
  refine tok_cons (snd_add dL_law_655 rfl) ?_
  refine tok_cons (snd_scr dL_law_656 rfl) ?_
  refine tok_cons (snd_aload_n dL_law_657 rfl rfl) ?_
  refine tok_cons (snd_iload_n dL_law_658 rfl rfl) ?_
  refine tok_cons (snd_iconst dL_law_659 rfl (inr_d rfl) rfl) ?_
  refine tok_cons (snd_add dL_law_660 rfl) ?_
  refine tok_cons (snd_scr dL_law_661 rfl) ?_
  refine tok_cons (snd_cv dL_law_662 mok_8_pageInfo ⟨wmL_81, wi_8_pageInfo, wl_8_pageInfo⟩ (rc := (RX8, TX8, 21)) rfl rfl pn_8_pageInfo (by decide) ⟨rfl, rfl⟩ rfl) ?_
  refine tok_cons (snd_icmp_eq dL_law_665 (by decide) rfl) ?_
  refine tok_cons (snd_iconst dL_law_668 rfl (inr_d rfl) rfl) ?_
  refine tok_cons (snd_zret dL_law_669 rfl) ?_
  refine tok_cons (snd_aload_n dL_law_670 rfl rfl) ?_
  refine tok_cons (snd_aload_n dL_law_671 rfl rfl) ?_
  refine tok_cons (snd_iload_n dL_law_672 rfl rfl) ?_
  refine tok_cons (snd_iconst dL_law_673 rfl (inr_d rfl) rfl) ?_
  refine tok_cons (snd_add dL_law_674 rfl) ?_
  refine tok_cons (snd_scr dL_law_675 rfl) ?_
  refine tok_cons (snd_cv dL_law_676 mok_7_isOverfull ⟨wmL_82, wi_7_isOverfull, wl_7_isOverfull⟩ (rc := (RX7, TX7, 4)) rfl rfl pn_7_isOverfull (by decide) ⟨rfl, rfl⟩ rfl) ?_
  refine tok_cons (snd_aload_n dL_law_679 rfl rfl) ?_
  refine tok_cons (snd_aload_n dL_law_680 rfl rfl) ?_
  refine tok_cons (snd_iload_n dL_law_681 rfl rfl) ?_
  refine tok_cons (snd_iconst dL_law_682 rfl (inr_d rfl) rfl) ?_
  refine tok_cons (snd_add dL_law_683 rfl) ?_
  refine tok_cons (snd_scr dL_law_684 rfl) ?_
  refine tok_cons (snd_cv dL_law_685 mok_8_isOverfull ⟨wmL_85, wi_8_isOverfull, wl_8_isOverfull⟩ (rc := (RX8, TX8, 21)) rfl rfl pn_8_isOverfull (by decide) ⟨rfl, rfl⟩ rfl) ?_
  refine tok_cons (snd_icmp_eq dL_law_688 (by decide) rfl) ?_
  refine tok_cons (snd_iconst dL_law_691 rfl (inr_d rfl) rfl) ?_
  refine tok_cons (snd_zret dL_law_692 rfl) ?_
  refine tok_cons (snd_aload_n dL_law_693 rfl rfl) ?_
  refine tok_cons (snd_aload_n dL_law_694 rfl rfl) ?_
  refine tok_cons (snd_iload_n dL_law_695 rfl rfl) ?_
  refine tok_cons (snd_iconst dL_law_696 rfl (inr_d rfl) rfl) ?_
  refine tok_cons (snd_add dL_law_697 rfl) ?_
  refine tok_cons (snd_scr dL_law_698 rfl) ?_
  refine tok_cons (snd_aload_n dL_law_699 rfl rfl) ?_
  refine tok_cons (snd_iload_n dL_law_700 rfl rfl) ?_
  refine tok_cons (snd_iconst dL_law_701 rfl (inr_d rfl) rfl) ?_
  refine tok_cons (snd_add dL_law_702 rfl) ?_
  refine tok_cons (snd_scr dL_law_703 rfl) ?_
  refine tok_cons (snd_aload_n dL_law_704 rfl rfl) ?_
  refine tok_cons (snd_iload_n dL_law_705 rfl rfl) ?_
  refine tok_cons (snd_iconst dL_law_706 rfl (inr_d rfl) rfl) ?_
  refine tok_cons (snd_add dL_law_707 rfl) ?_
  refine tok_cons (snd_scr dL_law_708 rfl) ?_
  refine tok_cons (snd_cv dL_law_709 mok_7_spreadOf ⟨wmL_86, wi_7_spreadOf, wl_7_spreadOf⟩ (rc := (RX7, TX7, 4)) rfl rfl pn_7_spreadOf (by decide) ⟨rfl, rfl⟩ rfl) ?_
  refine tok_cons (snd_aload_n dL_law_712 rfl rfl) ?_
  refine tok_cons (snd_aload_n dL_law_713 rfl rfl) ?_
  refine tok_cons (snd_iload_n dL_law_714 rfl rfl) ?_
  refine tok_cons (snd_iconst dL_law_715 rfl (inr_d rfl) rfl) ?_
  refine tok_cons (snd_add dL_law_716 rfl) ?_
  refine tok_cons (snd_scr dL_law_717 rfl) ?_
  refine tok_cons (snd_aload_n dL_law_718 rfl rfl) ?_
  refine tok_cons (snd_iload_n dL_law_719 rfl rfl) ?_
  refine tok_cons (snd_iconst dL_law_720 rfl (inr_d rfl) rfl) ?_
  refine tok_cons (snd_add dL_law_721 rfl) ?_
  refine tok_cons (snd_scr dL_law_722 rfl) ?_
  refine tok_cons (snd_aload_n dL_law_723 rfl rfl) ?_
  refine tok_cons (snd_iload_n dL_law_724 rfl rfl) ?_
  refine tok_cons (snd_iconst dL_law_725 rfl (inr_d rfl) rfl) ?_
  refine tok_cons (snd_add dL_law_726 rfl) ?_
  refine tok_cons (snd_scr dL_law_727 rfl) ?_
  refine tok_cons (snd_cv dL_law_728 mok_8_spreadOf ⟨wmL_89, wi_8_spreadOf, wl_8_spreadOf⟩ (rc := (RX8, TX8, 21)) rfl rfl pn_8_spreadOf (by decide) ⟨rfl, rfl⟩ rfl) ?_
  refine tok_cons (snd_icmp_eq dL_law_731 (by decide) rfl) ?_
  refine tok_cons (snd_iconst dL_law_734 rfl (inr_d rfl) rfl) ?_
  refine tok_cons (snd_zret dL_law_735 rfl) ?_
  refine tok_cons (snd_aload_n dL_law_736 rfl rfl) ?_
  refine tok_cons (snd_aload_n dL_law_737 rfl rfl) ?_
  refine tok_cons (snd_iload_n dL_law_738 rfl rfl) ?_
  refine tok_cons (snd_iconst dL_law_739 rfl (inr_d rfl) rfl) ?_
  refine tok_cons (snd_add dL_law_740 rfl) ?_
  refine tok_cons (snd_scr dL_law_741 rfl) ?_
  refine tok_cons (snd_aload_n dL_law_742 rfl rfl) ?_
  refine tok_cons (snd_iload_n dL_law_743 rfl rfl) ?_
  refine tok_cons (snd_iconst dL_law_744 rfl (inr_d rfl) rfl) ?_
  refine tok_cons (snd_add dL_law_745 rfl) ?_
  refine tok_cons (snd_scr dL_law_746 rfl) ?_
  refine tok_cons (snd_aload_n dL_law_747 rfl rfl) ?_
  refine tok_cons (snd_iload_n dL_law_748 rfl rfl) ?_
  refine tok_cons (snd_iconst dL_law_749 rfl (inr_d rfl) rfl) ?_
  refine tok_cons (snd_add dL_law_750 rfl) ?_
  refine tok_cons (snd_scr dL_law_751 rfl) ?_
  refine tok_cons (snd_cv dL_law_752 mok_7_rowOf ⟨wmL_90, wi_7_rowOf, wl_7_rowOf⟩ (rc := (RX7, TX7, 4)) rfl rfl pn_7_rowOf (by decide) ⟨rfl, rfl⟩ rfl) ?_
  refine tok_cons (snd_aload_n dL_law_755 rfl rfl) ?_
  refine tok_cons (snd_aload_n dL_law_756 rfl rfl) ?_
  refine tok_cons (snd_iload_n dL_law_757 rfl rfl) ?_
  refine tok_cons (snd_iconst dL_law_758 rfl (inr_d rfl) rfl) ?_
  refine tok_cons (snd_add dL_law_759 rfl) ?_
  refine tok_cons (snd_scr dL_law_760 rfl) ?_
  refine tok_cons (snd_aload_n dL_law_761 rfl rfl) ?_
  refine tok_cons (snd_iload_n dL_law_762 rfl rfl) ?_
  refine tok_cons (snd_iconst dL_law_763 rfl (inr_d rfl) rfl) ?_
  refine tok_cons (snd_add dL_law_764 rfl) ?_
  refine tok_cons (snd_scr dL_law_765 rfl) ?_
  refine tok_cons (snd_aload_n dL_law_766 rfl rfl) ?_
  refine tok_cons (snd_iload_n dL_law_767 rfl rfl) ?_
  refine tok_cons (snd_iconst dL_law_768 rfl (inr_d rfl) rfl) ?_
  refine tok_cons (snd_add dL_law_769 rfl) ?_
  refine tok_cons (snd_scr dL_law_770 rfl) ?_
  refine tok_cons (snd_cv dL_law_771 mok_8_rowOf ⟨wmL_93, wi_8_rowOf, wl_8_rowOf⟩ (rc := (RX8, TX8, 21)) rfl rfl pn_8_rowOf (by decide) ⟨rfl, rfl⟩ rfl) ?_
  refine tok_cons (snd_icmp_eq dL_law_774 (by decide) rfl) ?_
  refine tok_cons (snd_iconst dL_law_777 rfl (inr_d rfl) rfl) ?_
  refine tok_cons (snd_zret dL_law_778 rfl) ?_
  refine tok_cons (snd_aload_n dL_law_779 rfl rfl) ?_
  refine tok_cons (snd_aload_n dL_law_780 rfl rfl) ?_
  refine tok_cons (snd_iload_n dL_law_781 rfl rfl) ?_
  refine tok_cons (snd_iconst dL_law_782 rfl (inr_d rfl) rfl) ?_
  refine tok_cons (snd_add dL_law_783 rfl) ?_
  refine tok_cons (snd_scr dL_law_784 rfl) ?_
  refine tok_cons (snd_aload_n dL_law_785 rfl rfl) ?_
  refine tok_cons (snd_iload_n dL_law_786 rfl rfl) ?_
  refine tok_cons (snd_iconst dL_law_787 rfl (inr_d rfl) rfl) ?_
  refine tok_cons (snd_add dL_law_788 rfl) ?_
  refine tok_cons (snd_scr dL_law_789 rfl) ?_
  refine tok_cons (snd_aload_n dL_law_790 rfl rfl) ?_
  refine tok_cons (snd_iload_n dL_law_791 rfl rfl) ?_
  refine tok_cons (snd_iconst dL_law_792 rfl (inr_d rfl) rfl) ?_
  refine tok_cons (snd_add dL_law_793 rfl) ?_
  refine tok_cons (snd_scr dL_law_794 rfl) ?_
  refine tok_cons (snd_cv dL_law_795 mok_7_shown ⟨wmL_94, wi_7_shown, wl_7_shown⟩ (rc := (RX7, TX7, 4)) rfl rfl pn_7_shown (by decide) ⟨rfl, rfl⟩ rfl) ?_
  refine tok_cons (snd_aload_n dL_law_798 rfl rfl) ?_
  refine tok_cons (snd_aload_n dL_law_799 rfl rfl) ?_
  refine tok_cons (snd_iload_n dL_law_800 rfl rfl) ?_
  refine tok_cons (snd_iconst dL_law_801 rfl (inr_d rfl) rfl) ?_
  refine tok_cons (snd_add dL_law_802 rfl) ?_
  refine tok_cons (snd_scr dL_law_803 rfl) ?_
  refine tok_cons (snd_aload_n dL_law_804 rfl rfl) ?_
  refine tok_cons (snd_iload_n dL_law_805 rfl rfl) ?_
  refine tok_cons (snd_iconst dL_law_806 rfl (inr_d rfl) rfl) ?_
  refine tok_cons (snd_add dL_law_807 rfl) ?_
  refine tok_cons (snd_scr dL_law_808 rfl) ?_
  refine tok_cons (snd_aload_n dL_law_809 rfl rfl) ?_
  refine tok_cons (snd_iload_n dL_law_810 rfl rfl) ?_
  refine tok_cons (snd_iconst dL_law_811 rfl (inr_d rfl) rfl) ?_
  refine tok_cons (snd_add dL_law_812 rfl) ?_
  refine tok_cons (snd_scr dL_law_813 rfl) ?_
  refine tok_cons (snd_cv dL_law_814 mok_8_shown ⟨wmL_97, wi_8_shown, wl_8_shown⟩ (rc := (RX8, TX8, 21)) rfl rfl pn_8_shown (by decide) ⟨rfl, rfl⟩ rfl) ?_
  refine tok_cons (snd_icmp_eq dL_law_817 (by decide) rfl) ?_
  refine tok_cons (snd_iconst dL_law_820 rfl (inr_d rfl) rfl) ?_
  refine tok_cons (snd_zret dL_law_821 rfl) ?_
  refine tok_cons (snd_aload_n dL_law_822 rfl rfl) ?_
  refine tok_cons (snd_cv dL_law_823 mok_7_cost ⟨wmL_98, wi_7_cost, wl_7_cost⟩ (rc := (RX7, TX7, 4)) rfl rfl pn_7_cost (by decide) ⟨rfl, rfl⟩ rfl) ?_
  refine tok_cons (snd_aload_n dL_law_826 rfl rfl) ?_
  refine tok_cons (snd_cv dL_law_827 mok_8_cost ⟨wmL_101, wi_8_cost, wl_8_cost⟩ (rc := (RX8, TX8, 21)) rfl rfl pn_8_cost (by decide) ⟨rfl, rfl⟩ rfl) ?_
  refine tok_cons (snd_icmp_eq dL_law_830 (by decide) rfl) ?_
  refine tok_cons (snd_iconst dL_law_833 rfl (inr_d rfl) rfl) ?_
  refine tok_cons (snd_zret dL_law_834 rfl) ?_
  refine tok_cons (snd_aload_n dL_law_835 rfl rfl) ?_
  refine tok_cons (snd_cv dL_law_836 mok_7_bestCost ⟨wmL_102, wi_7_bestCost, wl_7_bestCost⟩ (rc := (RX7, TX7, 4)) rfl rfl pn_7_bestCost (by decide) ⟨rfl, rfl⟩ rfl) ?_
  refine tok_cons (snd_aload_n dL_law_839 rfl rfl) ?_
  refine tok_cons (snd_cv dL_law_840 mok_8_bestCost ⟨wmL_105, wi_8_bestCost, wl_8_bestCost⟩ (rc := (RX8, TX8, 21)) rfl rfl pn_8_bestCost (by decide) ⟨rfl, rfl⟩ rfl) ?_
  refine tok_cons (snd_icmp_eq dL_law_843 (by decide) rfl) ?_
  refine tok_cons (snd_iconst dL_law_846 rfl (inr_d rfl) rfl) ?_
  refine tok_cons (snd_zret dL_law_847 rfl) ?_
  refine tok_cons (snd_aload_n dL_law_848 rfl rfl) ?_
  refine tok_cons (snd_aload_n dL_law_849 rfl rfl) ?_
  refine tok_cons (snd_iload_n dL_law_850 rfl rfl) ?_
  refine tok_cons (snd_iconst dL_law_851 rfl (inr_d rfl) rfl) ?_
  refine tok_cons (snd_add dL_law_852 rfl) ?_
  refine tok_cons (snd_scr dL_law_853 rfl) ?_
  refine tok_cons (snd_cv dL_law_854 mok_7_bestBreak ⟨wmL_106, wi_7_bestBreak, wl_7_bestBreak⟩ (rc := (RX7, TX7, 4)) rfl rfl pn_7_bestBreak (by decide) ⟨rfl, rfl⟩ rfl) ?_
  refine tok_cons (snd_aload_n dL_law_857 rfl rfl) ?_
  refine tok_cons (snd_aload_n dL_law_858 rfl rfl) ?_
  refine tok_cons (snd_iload_n dL_law_859 rfl rfl) ?_
  refine tok_cons (snd_iconst dL_law_860 rfl (inr_d rfl) rfl) ?_
  refine tok_cons (snd_add dL_law_861 rfl) ?_
  refine tok_cons (snd_scr dL_law_862 rfl) ?_
  refine tok_cons (snd_cv dL_law_863 mok_8_bestBreak ⟨wmL_109, wi_8_bestBreak, wl_8_bestBreak⟩ (rc := (RX8, TX8, 21)) rfl rfl pn_8_bestBreak (by decide) ⟨rfl, rfl⟩ rfl) ?_
  refine tok_cons (snd_icmp_eq dL_law_866 (by decide) rfl) ?_
  refine tok_cons (snd_iconst dL_law_869 rfl (inr_d rfl) rfl) ?_
  refine tok_cons (snd_zret dL_law_870 rfl) ?_
  refine tok_cons (snd_aload_n dL_law_871 rfl rfl) ?_
  refine tok_cons (snd_aload_n dL_law_872 rfl rfl) ?_
  refine tok_cons (snd_iload_n dL_law_873 rfl rfl) ?_
  refine tok_cons (snd_iconst dL_law_874 rfl (inr_d rfl) rfl) ?_
  refine tok_cons (snd_add dL_law_875 rfl) ?_
  refine tok_cons (snd_scr dL_law_876 rfl) ?_
  refine tok_cons (snd_cv dL_law_877 mok_7_leastHeight ⟨wmL_110, wi_7_leastHeight, wl_7_leastHeight⟩ (rc := (RX7, TX7, 4)) rfl rfl pn_7_leastHeight (by decide) ⟨rfl, rfl⟩ rfl) ?_
  refine tok_cons (snd_aload_n dL_law_880 rfl rfl) ?_
  refine tok_cons (snd_aload_n dL_law_881 rfl rfl) ?_
  refine tok_cons (snd_iload_n dL_law_882 rfl rfl) ?_
  refine tok_cons (snd_iconst dL_law_883 rfl (inr_d rfl) rfl) ?_
  refine tok_cons (snd_add dL_law_884 rfl) ?_
  refine tok_cons (snd_scr dL_law_885 rfl) ?_
  refine tok_cons (snd_cv dL_law_886 mok_8_leastHeight ⟨wmL_113, wi_8_leastHeight, wl_8_leastHeight⟩ (rc := (RX8, TX8, 21)) rfl rfl pn_8_leastHeight (by decide) ⟨rfl, rfl⟩ rfl) ?_
  refine tok_cons (snd_icmp_eq dL_law_889 (by decide) rfl) ?_
  refine tok_cons (snd_iconst dL_law_892 rfl (inr_d rfl) rfl) ?_
  refine tok_cons (snd_zret dL_law_893 rfl) ?_
  refine tok_cons (snd_aload_n dL_law_894 rfl rfl) ?_
  refine tok_cons (snd_aload_n dL_law_895 rfl rfl) ?_
  refine tok_cons (snd_iload_n dL_law_896 rfl rfl) ?_
  refine tok_cons (snd_iconst dL_law_897 rfl (inr_d rfl) rfl) ?_
  refine tok_cons (snd_add dL_law_898 rfl) ?_
  refine tok_cons (snd_scr dL_law_899 rfl) ?_
  refine tok_cons (snd_cv dL_law_900 mok_7_overfullWith ⟨wmL_114, wi_7_overfullWith, wl_7_overfullWith⟩ (rc := (RX7, TX7, 4)) rfl rfl pn_7_overfullWith (by decide) ⟨rfl, rfl⟩ rfl) ?_
  refine tok_cons (snd_aload_n dL_law_903 rfl rfl) ?_
  refine tok_cons (snd_aload_n dL_law_904 rfl rfl) ?_
  refine tok_cons (snd_iload_n dL_law_905 rfl rfl) ?_
  refine tok_cons (snd_iconst dL_law_906 rfl (inr_d rfl) rfl) ?_
  refine tok_cons (snd_add dL_law_907 rfl) ?_
  refine tok_cons (snd_scr dL_law_908 rfl) ?_
  refine tok_cons (snd_cv dL_law_909 mok_8_overfullWith ⟨wmL_117, wi_8_overfullWith, wl_8_overfullWith⟩ (rc := (RX8, TX8, 21)) rfl rfl pn_8_overfullWith (by decide) ⟨rfl, rfl⟩ rfl) ?_
  refine tok_cons (snd_icmp_eq dL_law_912 (by decide) rfl) ?_
  refine tok_cons (snd_iconst dL_law_915 rfl (inr_d rfl) rfl) ?_
  refine tok_cons (snd_zret dL_law_916 rfl) ?_
  refine tok_cons (snd_aload_n dL_law_917 rfl rfl) ?_
  refine tok_cons (snd_cv dL_law_918 mok_7_splitPairs ⟨wmL_118, wi_7_splitPairs, wl_7_splitPairs⟩ (rc := (RX7, TX7, 4)) rfl rfl pn_7_splitPairs (by decide) ⟨rfl, rfl⟩ rfl) ?_
  refine tok_cons (snd_aload_n dL_law_921 rfl rfl) ?_
  refine tok_cons (snd_cv dL_law_922 mok_8_splitPairs ⟨wmL_121, wi_8_splitPairs, wl_8_splitPairs⟩ (rc := (RX8, TX8, 21)) rfl rfl pn_8_splitPairs (by decide) ⟨rfl, rfl⟩ rfl) ?_
  refine tok_cons (snd_icmp_eq dL_law_925 (by decide) rfl) ?_
  refine tok_cons (snd_iconst dL_law_928 rfl (inr_d rfl) rfl) ?_
  refine tok_cons (snd_zret dL_law_929 rfl) ?_
  refine tok_cons (snd_iinc dL_law_930 rfl rfl (by decide)) ?_
  refine tok_cons (snd_goto dL_law_933 (by decide)) ?_
  refine tok_cons (snd_iconst dL_law_936 rfl (inr_d rfl) rfl) ?_
  refine tok_cons (snd_zret dL_law_937 rfl) ?_
  exact tok_nil

def LQ : QT := fun r _ _ => r = some (.inl 1)
theorem mcL : m_mc M_L_law = 600000 ∧ m_ms M_L_law = 7302250 := ⟨rfl, rfl⟩
set_option maxRecDepth 40000 in
set_option maxHeartbeats 8000000 in
theorem law_loop {X : XT} {G : List Sh} (hC : CSh G) (hM : MSh G) (hX : xs X 7 ≤ 2560) : ∀ (n : Nat) (i : Int) (σ : Sto), Iv σ → 0 ≤ i → i ≤ 2600 → (xs X 7 : Int) - i < n → WPc X M_L_law LQ 18 [some (.inr 100006), some (.inr 0), some (.inr 179), some (.inl i)] [] (G, 197, 30283) σ := by
  have exi : ∀ (i : Int) (σ : Sto), 0 ≤ i → i ≤ 2600 → (xs X 7 : Int) - 5 < i → WPc X M_L_law LQ 18 [some (.inr 100006), some (.inr 0), some (.inr 179), some (.inl i)] [] (G, 197, 30283) σ := by
    intro i σ i0 i1 c
    refine blk_at (tok_L_law X) 1000 rfl ?_
    simp (maxSteps := 4000000) only [blk_s, blk_z, a_const, a_iload, a_aload, a_istore, a_astore, a_iinc, a_add, a_sub, a_mul, a_div, a_rem, a_dup, a_dup2, a_goto, a_ifnull, a_tsw, a_gi, a_gr, a_pi, a_ald, a_sld, a_ast, a_aald, a_len, a_gst, a_copy, a_max, a_min, a_iret, a_zret, a_aret, a_ret, a_cv, a_cn, a_sv, a_sn, icmp_t, icmp_f, aif_t, aif_f, lget, lset, fget, rget, apop, isO, Kv, Kn, fitb0, cmp, swl, InR, up, cpy, ↓reduceIte, if_true, if_false, Nat.left_eq_add, Nat.add_eq_left, Nat.add_left_cancel_iff, Nat.reduceEqDiff, Nat.zero_le, true_and, and_true, true_or, or_true, or_self, not_true_eq_false, not_false_eq_true, false_and, and_false, false_implies, true_implies, forall_const, ne_eq, Decidable.not_not, List.length_cons, List.length_nil, reduceCtorEq, Int.toNat_zero, Int.toNat_one, Int.cast_ofNat_Int, Nat.reduceAdd, Nat.reduceSub, Nat.reduceMul, Nat.reduceLT, Nat.reduceLeDiff, Nat.reduceEqDiff, Int.reduceAdd, Int.reduceSub, Int.reduceMul, Int.reduceNeg, Int.reduceLT, Int.reduceLE, Int.reduceEq, Int.reduceNe, Int.reduceToNat, t_L_law X, a_scl, a_scr, a_and, c, fitb, mcL, LQ]
    repeat (simp only [icmp_b, aif_b, cmp]; simp (maxSteps := 4000000) only [blk_s, blk_z, a_const, a_iload, a_aload, a_istore, a_astore, a_iinc, a_add, a_sub, a_mul, a_div, a_rem, a_dup, a_dup2, a_goto, a_ifnull, a_tsw, a_gi, a_gr, a_pi, a_ald, a_sld, a_ast, a_aald, a_len, a_gst, a_copy, a_max, a_min, a_iret, a_zret, a_aret, a_ret, a_cv, a_cn, a_sv, a_sn, icmp_t, icmp_f, aif_t, aif_f, lget, lset, fget, rget, apop, isO, Kv, Kn, fitb0, cmp, swl, InR, up, cpy, ↓reduceIte, if_true, if_false, Nat.left_eq_add, Nat.add_eq_left, Nat.add_left_cancel_iff, Nat.reduceEqDiff, Nat.zero_le, true_and, and_true, true_or, or_true, or_self, not_true_eq_false, not_false_eq_true, false_and, and_false, false_implies, true_implies, forall_const, ne_eq, Decidable.not_not, List.length_cons, List.length_nil, reduceCtorEq, Int.toNat_zero, Int.toNat_one, Int.cast_ofNat_Int, Nat.reduceAdd, Nat.reduceSub, Nat.reduceMul, Nat.reduceLT, Nat.reduceLeDiff, Nat.reduceEqDiff, Int.reduceAdd, Int.reduceSub, Int.reduceMul, Int.reduceNeg, Int.reduceLT, Int.reduceLE, Int.reduceEq, Int.reduceNe, Int.reduceToNat, t_L_law X, a_scl, a_scr, a_and, c, fitb, mcL, LQ])
    repeat' (first | assumption | with_reducible apply And.intro | with_reducible intro _)
    all_goals (try omega)
  intro n
  induction n with
  | zero =>
    intro i σ hI i0 i1 hn
    exact exi i σ i0 i1 (by omega)
  | succ n ih =>
    intro i σ hI i0 i1 hn
    by_cases c : (xs X 7 : Int) - 5 < i
    · exact exi i σ i0 i1 c
    have s0 : shp (G, 197, 30283) 0 = some (.inl (7, [some (some 1), some (some 18), some (some 122), some (some 164)])) := csh hC (by decide) rfl
    have s1 : ∃ fs, shp (G, 197, 30283) 179 = some (.inl (8, fs)) := ⟨_, msh hM (i := 0) (by decide) rfl⟩
    obtain ⟨fs, s1⟩ := s1
    have ih0 := ih (i + 5) σ hI (by omega) (by omega) (by omega)
    refine blk_at (tok_L_law X) 1000 rfl ?_
    simp (maxSteps := 4000000) only [blk_s, blk_z, a_const, a_iload, a_aload, a_istore, a_astore, a_iinc, a_add, a_sub, a_mul, a_div, a_rem, a_dup, a_dup2, a_goto, a_ifnull, a_tsw, a_gi, a_gr, a_pi, a_ald, a_sld, a_ast, a_aald, a_len, a_gst, a_copy, a_max, a_min, a_iret, a_zret, a_aret, a_ret, a_cv, a_cn, a_sv, a_sn, icmp_t, icmp_f, aif_t, aif_f, lget, lset, fget, rget, apop, isO, Kv, Kn, fitb0, cmp, swl, InR, up, cpy, ↓reduceIte, if_true, if_false, Nat.left_eq_add, Nat.add_eq_left, Nat.add_left_cancel_iff, Nat.reduceEqDiff, Nat.zero_le, true_and, and_true, true_or, or_true, or_self, not_true_eq_false, not_false_eq_true, false_and, and_false, false_implies, true_implies, forall_const, ne_eq, Decidable.not_not, List.length_cons, List.length_nil, reduceCtorEq, Int.toNat_zero, Int.toNat_one, Int.cast_ofNat_Int, Nat.reduceAdd, Nat.reduceSub, Nat.reduceMul, Nat.reduceLT, Nat.reduceLeDiff, Nat.reduceEqDiff, Int.reduceAdd, Int.reduceSub, Int.reduceMul, Int.reduceNeg, Int.reduceLT, Int.reduceLE, Int.reduceEq, Int.reduceNe, Int.reduceToNat, t_L_law X, a_scl, a_scr, a_and, s0, s1, c, fitb, mcL]
    repeat (simp only [icmp_b, aif_b, cmp]; simp (maxSteps := 4000000) only [blk_s, blk_z, a_const, a_iload, a_aload, a_istore, a_astore, a_iinc, a_add, a_sub, a_mul, a_div, a_rem, a_dup, a_dup2, a_goto, a_ifnull, a_tsw, a_gi, a_gr, a_pi, a_ald, a_sld, a_ast, a_aald, a_len, a_gst, a_copy, a_max, a_min, a_iret, a_zret, a_aret, a_ret, a_cv, a_cn, a_sv, a_sn, icmp_t, icmp_f, aif_t, aif_f, lget, lset, fget, rget, apop, isO, Kv, Kn, fitb0, cmp, swl, InR, up, cpy, ↓reduceIte, if_true, if_false, Nat.left_eq_add, Nat.add_eq_left, Nat.add_left_cancel_iff, Nat.reduceEqDiff, Nat.zero_le, true_and, and_true, true_or, or_true, or_self, not_true_eq_false, not_false_eq_true, false_and, and_false, false_implies, true_implies, forall_const, ne_eq, Decidable.not_not, List.length_cons, List.length_nil, reduceCtorEq, Int.toNat_zero, Int.toNat_one, Int.cast_ofNat_Int, Nat.reduceAdd, Nat.reduceSub, Nat.reduceMul, Nat.reduceLT, Nat.reduceLeDiff, Nat.reduceEqDiff, Int.reduceAdd, Int.reduceSub, Int.reduceMul, Int.reduceNeg, Int.reduceLT, Int.reduceLE, Int.reduceEq, Int.reduceNe, Int.reduceToNat, t_L_law X, a_scl, a_scr, a_and, s0, s1, c, fitb, mcL])
    repeat' (first | assumption | with_reducible apply And.intro | with_reducible intro _)
    all_goals (try omega)
    all_goals
      first
      | refine MS_mono (po_insert G σ hC hM hI) ?_
      | refine MS_mono (po_remove G σ hC hM hI) ?_
      | refine MS_mono (po_setLines G σ hC hM hI) ?_
      | refine MS_mono (po_setFlag G σ hC hM hI) ?_
      | refine MS_mono (po_addNote G σ hC hM hI) ?_
      | refine MS_mono (po_removeNote G σ hC hM hI) ?_
      | refine MS_mono (po_set G σ hC hM hI) ?_
      | refine MS_mono (po_undo G σ hC hM hI) ?_
      | refine MS_mono (po_pairCount G σ hC hM hI) ?_
      | refine MS_mono (po_pairInfo G σ hC hM hI) ?_
      | refine MS_mono (po_noteCount G σ hC hM hI) ?_
      | refine MS_mono (po_noteInfo G σ hC hM hI) ?_
      | refine MS_mono (po_spreadCount G σ hC hM hI) ?_
      | refine MS_mono (po_segmentCount G σ hC hM hI) ?_
      | refine MS_mono (po_segmentInfo G σ hC hM hI) ?_
      | refine MS_mono (po_pageInfo G σ hC hM hI) ?_
      | refine MS_mono (po_isOverfull G σ hC hM hI) ?_
      | refine MS_mono (po_spreadOf G σ hC hM hI) ?_
      | refine MS_mono (po_rowOf G σ hC hM hI) ?_
      | refine MS_mono (po_shown G σ hC hM hI) ?_
      | refine MS_mono (po_cost G σ hC hM hI) ?_
      | refine MS_mono (po_bestCost G σ hC hM hI) ?_
      | refine MS_mono (po_bestBreak G σ hC hM hI) ?_
      | refine MS_mono (po_leastHeight G σ hC hM hI) ?_
      | refine MS_mono (po_overfullWith G σ hC hM hI) ?_
      | refine MS_mono (po_splitPairs G σ hC hM hI) ?_
    all_goals
      rintro r G' σ' ⟨rfl, v, rfl, hm⟩
      simp (maxSteps := 4000000) only [blk_s, blk_z, a_const, a_iload, a_aload, a_istore, a_astore, a_iinc, a_add, a_sub, a_mul, a_div, a_rem, a_dup, a_dup2, a_goto, a_ifnull, a_tsw, a_gi, a_gr, a_pi, a_ald, a_sld, a_ast, a_aald, a_len, a_gst, a_copy, a_max, a_min, a_iret, a_zret, a_aret, a_ret, a_cv, a_cn, a_sv, a_sn, icmp_t, icmp_f, aif_t, aif_f, lget, lset, fget, rget, apop, isO, Kv, Kn, fitb0, cmp, swl, InR, up, cpy, ↓reduceIte, if_true, if_false, Nat.left_eq_add, Nat.add_eq_left, Nat.add_left_cancel_iff, Nat.reduceEqDiff, Nat.zero_le, true_and, and_true, true_or, or_true, or_self, not_true_eq_false, not_false_eq_true, false_and, and_false, false_implies, true_implies, forall_const, ne_eq, Decidable.not_not, List.length_cons, List.length_nil, reduceCtorEq, Int.toNat_zero, Int.toNat_one, Int.cast_ofNat_Int, Nat.reduceAdd, Nat.reduceSub, Nat.reduceMul, Nat.reduceLT, Nat.reduceLeDiff, Nat.reduceEqDiff, Int.reduceAdd, Int.reduceSub, Int.reduceMul, Int.reduceNeg, Int.reduceLT, Int.reduceLE, Int.reduceEq, Int.reduceNe, Int.reduceToNat, t_L_law X, a_scl, a_scr, a_and, s0, s1, fitb, mcL]
      repeat (simp only [icmp_b, aif_b, cmp]; simp (maxSteps := 4000000) only [blk_s, blk_z, a_const, a_iload, a_aload, a_istore, a_astore, a_iinc, a_add, a_sub, a_mul, a_div, a_rem, a_dup, a_dup2, a_goto, a_ifnull, a_tsw, a_gi, a_gr, a_pi, a_ald, a_sld, a_ast, a_aald, a_len, a_gst, a_copy, a_max, a_min, a_iret, a_zret, a_aret, a_ret, a_cv, a_cn, a_sv, a_sn, icmp_t, icmp_f, aif_t, aif_f, lget, lset, fget, rget, apop, isO, Kv, Kn, fitb0, cmp, swl, InR, up, cpy, ↓reduceIte, if_true, if_false, Nat.left_eq_add, Nat.add_eq_left, Nat.add_left_cancel_iff, Nat.reduceEqDiff, Nat.zero_le, true_and, and_true, true_or, or_true, or_self, not_true_eq_false, not_false_eq_true, false_and, and_false, false_implies, true_implies, forall_const, ne_eq, Decidable.not_not, List.length_cons, List.length_nil, reduceCtorEq, Int.toNat_zero, Int.toNat_one, Int.cast_ofNat_Int, Nat.reduceAdd, Nat.reduceSub, Nat.reduceMul, Nat.reduceLT, Nat.reduceLeDiff, Nat.reduceEqDiff, Int.reduceAdd, Int.reduceSub, Int.reduceMul, Int.reduceNeg, Int.reduceLT, Int.reduceLE, Int.reduceEq, Int.reduceNe, Int.reduceToNat, t_L_law X, a_scl, a_scr, a_and, s0, s1, fitb, mcL])
      repeat' (first | assumption | with_reducible apply And.intro | with_reducible intro _)
      all_goals (try omega)
      refine MS_mono hm ?_
      rintro r' G'' σ'' ⟨rfl, rfl, hI'⟩
      have ih1 := ih (i + 5) σ'' hI' (by omega) (by omega) (by omega)
      simp (maxSteps := 4000000) only [blk_s, blk_z, a_const, a_iload, a_aload, a_istore, a_astore, a_iinc, a_add, a_sub, a_mul, a_div, a_rem, a_dup, a_dup2, a_goto, a_ifnull, a_tsw, a_gi, a_gr, a_pi, a_ald, a_sld, a_ast, a_aald, a_len, a_gst, a_copy, a_max, a_min, a_iret, a_zret, a_aret, a_ret, a_cv, a_cn, a_sv, a_sn, icmp_t, icmp_f, aif_t, aif_f, lget, lset, fget, rget, apop, isO, Kv, Kn, fitb0, cmp, swl, InR, up, cpy, ↓reduceIte, if_true, if_false, Nat.left_eq_add, Nat.add_eq_left, Nat.add_left_cancel_iff, Nat.reduceEqDiff, Nat.zero_le, true_and, and_true, true_or, or_true, or_self, not_true_eq_false, not_false_eq_true, false_and, and_false, false_implies, true_implies, forall_const, ne_eq, Decidable.not_not, List.length_cons, List.length_nil, reduceCtorEq, Int.toNat_zero, Int.toNat_one, Int.cast_ofNat_Int, Nat.reduceAdd, Nat.reduceSub, Nat.reduceMul, Nat.reduceLT, Nat.reduceLeDiff, Nat.reduceEqDiff, Int.reduceAdd, Int.reduceSub, Int.reduceMul, Int.reduceNeg, Int.reduceLT, Int.reduceLE, Int.reduceEq, Int.reduceNe, Int.reduceToNat, t_L_law X, a_scl, a_scr, a_and, s0, s1, fitb, mcL]
      repeat (simp only [icmp_b, aif_b, cmp]; simp (maxSteps := 4000000) only [blk_s, blk_z, a_const, a_iload, a_aload, a_istore, a_astore, a_iinc, a_add, a_sub, a_mul, a_div, a_rem, a_dup, a_dup2, a_goto, a_ifnull, a_tsw, a_gi, a_gr, a_pi, a_ald, a_sld, a_ast, a_aald, a_len, a_gst, a_copy, a_max, a_min, a_iret, a_zret, a_aret, a_ret, a_cv, a_cn, a_sv, a_sn, icmp_t, icmp_f, aif_t, aif_f, lget, lset, fget, rget, apop, isO, Kv, Kn, fitb0, cmp, swl, InR, up, cpy, ↓reduceIte, if_true, if_false, Nat.left_eq_add, Nat.add_eq_left, Nat.add_left_cancel_iff, Nat.reduceEqDiff, Nat.zero_le, true_and, and_true, true_or, or_true, or_self, not_true_eq_false, not_false_eq_true, false_and, and_false, false_implies, true_implies, forall_const, ne_eq, Decidable.not_not, List.length_cons, List.length_nil, reduceCtorEq, Int.toNat_zero, Int.toNat_one, Int.cast_ofNat_Int, Nat.reduceAdd, Nat.reduceSub, Nat.reduceMul, Nat.reduceLT, Nat.reduceLeDiff, Nat.reduceEqDiff, Int.reduceAdd, Int.reduceSub, Int.reduceMul, Int.reduceNeg, Int.reduceLT, Int.reduceLE, Int.reduceEq, Int.reduceNe, Int.reduceToNat, t_L_law X, a_scl, a_scr, a_and, s0, s1, fitb, mcL])
      repeat' (first | assumption | with_reducible apply And.intro | with_reducible intro _)
      all_goals (try omega)
