/-! printed by wip/whole/gen/gen2.py: the methods as entries; words by their places in lw_tbl -/
def ab_cnl : List String := [RX0, RX1, RX2, RX3, RX4, RX5, RX6, RX7, RX8, RX9, RX10, RX11, RX12, "WheelPensLaw", "java/lang/Math", "java/lang/String", "java/lang/StringLatin1", "jdk/internal/util/Preconditions"]
def ab_sl : List Nat := [4, 5, 3, 2, 2, 2, 4, 6, 4, 4, 23, 21, 11, 30, 23, 34, 21]
def ab_sb : List (List Int32) := [[114, 105, 110, 103], [119, 104, 101, 101, 108], [112, 101, 110], [105, 110], [111, 110], [97, 116], [116, 117, 114, 110], [109, 105, 114, 114, 111, 114], [98, 97, 99, 107], [102, 114, 111, 109], [110, 111, 32, 115, 117, 99, 104, 32, 87, 72, 69, 69, 76, 32, 111, 114, 32, 110, 117, 109, 98, 101, 114], [110, 111, 32, 115, 117, 99, 104, 32, 80, 69, 78, 32, 111, 114, 32, 110, 117, 109, 98, 101, 114], [110, 111, 32, 115, 117, 99, 104, 32, 65, 82, 77], [110, 111, 32, 115, 117, 99, 104, 32, 83, 72, 69, 69, 84, 44, 32, 80, 79, 73, 78, 84, 32, 111, 114, 32, 110, 117, 109, 98, 101, 114], [110, 111, 32, 115, 117, 99, 104, 32, 83, 72, 69, 69, 84, 32, 111, 114, 32, 110, 117, 109, 98, 101, 114], [110, 111, 110, 101, 32, 105, 115, 32, 99, 104, 97, 110, 103, 101, 100, 44, 32, 111, 114, 32, 110, 111, 32, 115, 117, 99, 104, 32, 110, 117, 109, 98, 101, 114], [110, 111, 32, 115, 117, 99, 104, 32, 119, 97, 121, 32, 111, 114, 32, 110, 117, 109, 98, 101, 114]]
def ab_str : List (String × Nat × String) := [("WheelPens$KitReader", 39, "ring"), ("WheelPens$KitReader", 49, "wheel"), ("WheelPens$KitReader", 53, "pen"), ("WheelPens$KitReader", 152, "in"), ("WheelPens$KitReader", 154, "on"), ("WheelPens$KitReader", 112, "at"), ("WheelPens$MixReader", 87, "turn"), ("WheelPens$MixReader", 92, "mirror"), ("WheelPens$MixReader", 94, "back"), ("WheelPens$MixReader", 96, "from"), ("WheelPens", 119, "no such WHEEL or number"), ("WheelPens", 148, "no such PEN or number"), ("WheelPens", 150, "no such ARM"), ("WheelPens", 221, "no such SHEET, POINT or number"), ("WheelPens", 244, "no such SHEET or number"), ("WheelPens", 319, "none is changed, or no such number"), ("WheelPens", 342, "no such way or number")]
def ab_fl : List (Nat × Nat × Nat × Nat × Nat × Nat) := [(8, 9, 8, 0, 0, 133), (11, 90, 8, 1, 0, 134), (8, 15, 8, 1, 0, 135), (0, 28, 8, 1, 0, 136), (8, 23, 8, 2, 0, 137), (8, 26, 8, 3, 0, 138), (2, 36, 8, 4, 0, 139), (3, 59, 8, 4, 0, 140), (8, 36, 8, 4, 0, 141), (2, 66, 8, 5, 0, 142), (3, 70, 8, 5, 0, 143), (8, 39, 8, 5, 0, 144), (2, 78, 8, 6, 0, 145), (3, 76, 8, 6, 0, 146), (8, 54, 8, 6, 0, 147), (10, 60, 10, 0, 0, 176), (2, 99, 10, 0, 0, 177), (1, 71, 10, 0, 0, 178), (10, 63, 10, 1, 0, 179), (1, 81, 10, 1, 0, 180), (2, 156, 10, 1, 0, 181), (10, 18, 10, 2, 0, 182), (1, 76, 10, 2, 0, 183), (10, 27, 10, 3, 0, 184), (1, 85, 10, 3, 0, 185), (2, 164, 10, 3, 0, 186), (10, 30, 10, 4, 0, 187), (1, 79, 10, 4, 0, 188), (2, 167, 10, 4, 0, 189), (10, 33, 10, 5, 0, 190), (10, 36, 10, 6, 0, 191), (10, 54, 10, 7, 0, 192), (1, 88, 10, 7, 0, 193), (10, 57, 10, 8, 0, 194), (1, 90, 10, 8, 0, 195), (10, 67, 10, 9, 0, 196), (1, 92, 10, 9, 0, 197), (10, 70, 10, 10, 0, 198), (1, 95, 10, 10, 0, 199), (2, 12, 2, 0, 0, 223), (2, 23, 2, 1, 0, 224), (11, 102, 2, 1, 0, 225), (2, 69, 2, 2, 0, 226), (11, 108, 2, 2, 0, 227), (2, 27, 2, 3, 0, 228), (11, 111, 2, 3, 0, 229), (3, 31, 3, 0, 0, 245), (11, 201, 3, 0, 0, 246), (3, 73, 3, 1, 0, 247), (11, 206, 3, 1, 0, 248), (3, 35, 3, 2, 0, 249), (11, 369, 3, 2, 0, 250), (3, 11, 3, 3, 0, 251), (11, 366, 3, 3, 0, 252), (3, 15, 3, 4, 0, 253), (11, 389, 3, 4, 0, 254), (3, 18, 3, 5, 0, 255), (11, 382, 3, 5, 0, 256), (3, 21, 3, 6, 0, 257), (11, 379, 3, 6, 0, 258), (3, 24, 3, 7, 0, 259), (11, 376, 3, 7, 0, 260), (3, 27, 3, 8, 0, 261), (11, 385, 3, 8, 0, 262), (5, 26, 5, 0, 0, 289), (11, 145, 5, 0, 0, 290), (5, 30, 5, 1, 0, 291), (11, 141, 5, 1, 0, 292), (5, 13, 5, 2, 0, 293), (5, 17, 5, 3, 0, 294), (5, 20, 5, 4, 0, 295), (11, 155, 5, 4, 0, 296), (5, 23, 5, 5, 0, 297), (11, 152, 5, 5, 0, 298), (7, 18, 7, 0, 0, 319), (4, 31, 7, 0, 0, 320), (11, 280, 7, 0, 0, 321), (4, 38, 7, 1, 0, 322), (7, 22, 7, 1, 0, 323), (11, 191, 7, 1, 0, 324), (7, 9, 7, 2, 0, 325), (7, 15, 7, 3, 0, 326), (11, 257, 7, 3, 0, 327), (4, 37, 4, 0, 0, 343), (4, 41, 4, 1, 0, 344), (4, 11, 4, 2, 0, 345), (4, 15, 4, 3, 0, 346), (4, 18, 4, 4, 0, 347), (4, 21, 4, 5, 0, 348), (4, 24, 4, 6, 0, 349), (9, 87, 4, 6, 0, 350), (4, 28, 4, 7, 0, 351), (4, 42, 4, 8, 0, 352), (11, 260, 4, 8, 0, 353), (9, 43, 9, 0, 0, 379), (0, 59, 9, 0, 0, 380), (9, 47, 9, 1, 0, 381), (9, 9, 9, 2, 0, 382), (11, 304, 9, 2, 0, 383), (9, 80, 9, 3, 0, 384), (11, 292, 9, 3, 0, 385), (9, 15, 9, 4, 0, 386), (11, 295, 9, 4, 0, 387), (9, 19, 9, 5, 0, 388), (11, 298, 9, 5, 0, 389), (9, 22, 9, 6, 0, 390), (11, 301, 9, 6, 0, 391), (9, 25, 9, 7, 0, 392), (11, 313, 9, 7, 0, 393), (9, 118, 9, 8, 0, 394), (11, 316, 9, 8, 0, 395), (9, 29, 9, 9, 0, 396), (11, 321, 9, 9, 0, 397), (9, 96, 9, 10, 0, 398), (9, 99, 9, 11, 0, 399), (0, 34, 0, 0, 0, 431), (0, 37, 0, 1, 0, 432), (0, 9, 0, 2, 0, 433), (0, 13, 0, 3, 0, 434), (0, 46, 0, 4, 0, 435), (11, 339, 0, 4, 0, 436), (0, 16, 0, 5, 0, 437), (11, 344, 0, 5, 0, 438), (0, 19, 0, 6, 0, 439), (11, 347, 0, 6, 0, 440), (0, 22, 0, 7, 0, 441), (11, 350, 0, 7, 0, 442), (0, 25, 0, 8, 0, 443), (11, 353, 0, 8, 0, 444), (9, 32, 6, 0, 0, 471), (4, 45, 6, 0, 0, 472), (6, 19, 6, 0, 0, 473), (3, 79, 6, 0, 0, 474), (11, 211, 6, 0, 0, 475), (6, 15, 6, 1, 0, 476), (9, 44, 6, 1, 0, 477), (4, 48, 6, 1, 0, 478), (11, 214, 6, 1, 0, 479), (6, 9, 6, 2, 0, 480), (7, 36, 6, 2, 1, 481), (1, 54, 1, 0, 0, 495), (2, 72, 1, 0, 0, 496), (11, 356, 1, 0, 0, 497), (1, 58, 1, 1, 0, 498), (2, 96, 1, 1, 0, 499), (11, 114, 1, 1, 0, 500), (1, 61, 1, 2, 0, 501), (5, 34, 1, 2, 0, 502), (2, 128, 1, 2, 0, 503), (11, 324, 1, 2, 0, 504), (1, 64, 1, 3, 0, 505), (1, 11, 1, 4, 0, 506), (1, 15, 1, 5, 0, 507), (10, 15, 1, 5, 0, 508), (2, 138, 1, 5, 0, 509), (1, 18, 1, 6, 0, 510), (10, 9, 1, 6, 0, 511), (2, 145, 1, 6, 0, 512), (1, 21, 1, 7, 0, 513), (10, 24, 1, 7, 0, 514), (1, 24, 1, 8, 0, 515), (10, 39, 1, 8, 0, 516), (1, 27, 1, 9, 0, 517), (5, 65, 1, 9, 0, 518), (1, 30, 1, 10, 0, 519), (10, 42, 1, 10, 0, 520), (1, 33, 1, 11, 0, 521), (5, 62, 1, 11, 0, 522), (1, 36, 1, 12, 0, 523), (5, 56, 1, 12, 0, 524), (1, 39, 1, 13, 0, 525), (5, 59, 1, 13, 0, 526), (1, 42, 1, 14, 0, 527), (5, 43, 1, 14, 0, 528), (10, 44, 1, 14, 0, 529), (11, 124, 1, 14, 0, 530), (1, 45, 1, 15, 0, 531), (5, 46, 1, 15, 0, 532), (10, 47, 1, 15, 0, 533), (11, 128, 1, 15, 0, 534), (1, 48, 1, 16, 0, 535), (5, 39, 1, 16, 0, 536), (1, 51, 1, 17, 0, 537), (5, 49, 1, 17, 0, 538), (11, 12, 11, 0, 0, 576), (11, 19, 11, 1, 0, 577), (11, 26, 11, 2, 0, 578), (11, 33, 11, 3, 0, 579), (11, 40, 11, 4, 0, 580), (11, 47, 11, 5, 0, 581), (11, 54, 11, 6, 0, 582), (11, 61, 11, 7, 0, 583), (11, 67, 11, 8, 0, 584), (11, 72, 11, 9, 0, 585), (11, 76, 11, 10, 0, 586), (11, 83, 11, 11, 0, 587), (11, 87, 11, 12, 0, 588), (11, 105, 11, 13, 0, 589), (12, 145, 12, 0, 0, 1357), (12, 7, 12, 1, 0, 1358), (12, 148, 12, 2, 0, 1359), (12, 155, 12, 3, 0, 1360), (12, 164, 12, 4, 0, 1361), (12, 158, 12, 5, 0, 1362), (12, 161, 12, 6, 0, 1363), (12, 167, 12, 7, 0, 1364), (12, 184, 12, 8, 0, 1365), (12, 177, 12, 9, 0, 1366), (12, 195, 12, 10, 0, 1367), (12, 198, 12, 11, 0, 1368), (12, 180, 12, 12, 0, 1369), (12, 208, 12, 13, 0, 1370), (12, 13, 12, 14, 0, 1371), (12, 17, 12, 15, 0, 1372), (12, 20, 12, 16, 0, 1373), (12, 23, 12, 17, 0, 1374), (12, 26, 12, 18, 0, 1375), (12, 29, 12, 19, 0, 1376), (12, 32, 12, 20, 0, 1377), (12, 35, 12, 21, 0, 1378), (12, 38, 12, 22, 0, 1379), (12, 41, 12, 23, 0, 1380), (12, 44, 12, 24, 0, 1381), (12, 47, 12, 25, 0, 1382), (12, 50, 12, 26, 0, 1383), (12, 53, 12, 27, 0, 1384), (12, 56, 12, 28, 0, 1385), (12, 59, 12, 29, 0, 1386), (12, 62, 12, 30, 0, 1387), (12, 65, 12, 31, 0, 1388), (12, 68, 12, 32, 0, 1389), (12, 291, 12, 33, 0, 1390), (12, 298, 12, 34, 0, 1391), (12, 71, 12, 35, 0, 1392), (12, 74, 12, 36, 0, 1393), (12, 77, 12, 37, 0, 1394), (12, 323, 12, 38, 0, 1395), (12, 308, 12, 39, 0, 1396), (12, 320, 12, 40, 0, 1397), (12, 80, 12, 41, 0, 1398), (12, 83, 12, 42, 0, 1399), (12, 86, 12, 43, 0, 1400), (12, 89, 12, 44, 0, 1401), (12, 92, 12, 45, 0, 1402), (12, 95, 12, 46, 0, 1403), (12, 98, 12, 47, 0, 1404), (12, 101, 12, 48, 0, 1405), (12, 104, 12, 49, 0, 1406), (12, 107, 12, 50, 0, 1407), (12, 111, 12, 51, 0, 1408), (12, 368, 12, 52, 0, 1409), (12, 114, 12, 53, 0, 1410), (12, 117, 12, 54, 0, 1411), (12, 120, 12, 55, 0, 1412), (12, 123, 12, 56, 0, 1413), (12, 427, 12, 57, 0, 1414), (12, 126, 12, 58, 0, 1415), (12, 439, 12, 59, 0, 1416), (12, 130, 12, 60, 0, 1417), (12, 133, 12, 61, 0, 1418), (12, 136, 12, 62, 0, 1419), (12, 139, 12, 63, 0, 1420), (12, 142, 12, 64, 0, 1421), (12, 449, 12, 65, 0, 1422)]
def ab_ml : List (Nat × Nat × Nat × Nat × Nat) := [(13, 33, 106, 0, 121), (11, 3, 903, 0, 124), (11, 11, 76, 1, 129), (8, 3, 903, 0, 132), (11, 18, 12, 1, 166), (2, 3, 903, 0, 169), (2, 11, 102, 1, 172), (10, 3, 903, 0, 175), (11, 25, 26, 1, 241), (3, 3, 903, 0, 244), (11, 32, 46, 1, 285), (5, 5, 903, 0, 288), (11, 39, 64, 1, 315), (7, 3, 903, 0, 318), (11, 46, 32, 1, 339), (4, 3, 903, 0, 342), (11, 53, 90, 1, 375), (9, 3, 903, 0, 378), (11, 60, 0, 1, 427), (0, 1, 903, 0, 430), (11, 71, 53, 1, 467), (6, 3, 903, 0, 470), (11, 82, 5, 1, 491), (1, 5, 903, 0, 494), (13, 37, 107, 0, 619), (11, 94, 77, 0, 623), (13, 42, 108, 0, 627), (13, 47, 109, 0, 631), (11, 98, 13, 0, 635), (2, 18, 6, 0, 639), (2, 30, 78, 0, 643), (8, 29, 79, 0, 647), (8, 19, 80, 0, 651), (8, 32, 81, 0, 655), (8, 42, 82, 0, 658), (8, 45, 83, 0, 661), (8, 48, 84, 0, 664), (8, 51, 85, 0, 668), (2, 41, 86, 0, 673), (8, 57, 252, 0, 677), (15, 335, 253, 0, 681), (8, 62, 254, 0, 687), (15, 492, 255, 0, 691), (15, 495, 257, 0, 695), (16, 9, 256, 0, 698), (15, 1059, 258, 0, 703), (2, 45, 14, 0, 725), (2, 58, 15, 0, 729), (2, 75, 79, 0, 733), (2, 81, 16, 0, 734), (2, 131, 17, 0, 738), (2, 134, 7, 0, 746), (2, 84, 18, 0, 750), (2, 88, 19, 0, 754), (2, 117, 87, 0, 758), (2, 92, 8, 0, 762), (1, 67, 9, 0, 766), (2, 50, 20, 0, 770), (2, 102, 21, 0, 774), (2, 106, 22, 0, 778), (2, 160, 103, 0, 782), (2, 109, 104, 0, 786), (10, 50, 110, 1, 790), (2, 114, 23, 0, 793), (2, 142, 24, 0, 797), (2, 121, 105, 0, 800), (2, 124, 10, 0, 806), (2, 55, 25, 0, 810), (2, 148, 11, 0, 814), (2, 62, 88, 0, 818), (13, 52, 111, 0, 823), (13, 65, 112, 0, 827), (11, 131, 113, 0, 831), (11, 137, 47, 0, 836), (5, 52, 48, 0, 840), (5, 68, 49, 0, 844), (5, 71, 50, 0, 848), (5, 77, 110, 1, 852), (5, 74, 51, 0, 853), (13, 69, 114, 0, 857), (13, 78, 115, 0, 861), (11, 158, 52, 0, 865), (13, 82, 116, 0, 869), (11, 162, 117, 0, 873), (11, 165, 118, 0, 876), (11, 173, 65, 0, 880), (7, 25, 110, 1, 884), (7, 29, 66, 0, 885), (7, 32, 67, 0, 889), (11, 176, 68, 0, 892), (11, 362, 119, 0, 896), (11, 401, 250, 0, 899), (11, 246, 120, 0, 902), (11, 396, 251, 0, 905), (11, 183, 69, 0, 908), (11, 254, 70, 0, 912), (11, 187, 71, 0, 916), (11, 194, 54, 0, 920), (11, 169, 55, 0, 924), (6, 38, 56, 0, 928), (6, 30, 57, 0, 932), (6, 34, 58, 0, 936), (13, 87, 121, 0, 940), (11, 179, 89, 0, 944), (13, 91, 122, 0, 948), (11, 198, 27, 0, 952), (3, 38, 78, 0, 956), (3, 44, 28, 0, 957), (3, 48, 87, 0, 960), (3, 52, 79, 0, 961), (3, 55, 29, 0, 962), (3, 66, 30, 0, 966), (3, 84, 31, 0, 970), (3, 88, 86, 0, 975), (3, 62, 88, 0, 979), (11, 202, 123, 0, 980), (11, 207, 124, 0, 984), (11, 372, 125, 0, 988), (11, 223, 58, 0, 992), (11, 276, 59, 0, 993), (6, 26, 54, 0, 999), (13, 95, 126, 0, 1000), (13, 99, 127, 0, 1004), (11, 215, 60, 0, 1008), (11, 218, 61, 0, 1012), (13, 106, 128, 0, 1016), (11, 227, 129, 0, 1020), (11, 250, 72, 0, 1024), (7, 42, 58, 0, 1028), (7, 46, 69, 0, 1029), (11, 392, 130, 0, 1030), (11, 230, 33, 0, 1033), (11, 234, 34, 0, 1037), (4, 49, 58, 0, 1041), (4, 53, 35, 0, 1042), (4, 71, 36, 0, 1046), (4, 83, 73, 0, 1050), (4, 87, 37, 0, 1054), (4, 75, 38, 0, 1058), (4, 91, 130, 1, 1062), (4, 79, 120, 1, 1063), (11, 238, 39, 0, 1064), (4, 95, 40, 0, 1068), (4, 99, 41, 0, 1072), (11, 241, 42, 0, 1076), (4, 57, 68, 0, 1080), (4, 60, 69, 0, 1081), (4, 64, 70, 0, 1082), (4, 67, 71, 0, 1083), (13, 113, 131, 0, 1084), (11, 263, 43, 0, 1088), (4, 103, 44, 0, 1092), (13, 117, 132, 0, 1096), (11, 266, 62, 0, 1100), (6, 42, 63, 0, 1104), (6, 46, 120, 1, 1108), (11, 269, 45, 0, 1109), (13, 121, 133, 0, 1113), (11, 272, 74, 0, 1117), (13, 125, 134, 0, 1121), (11, 281, 56, 0, 1125), (13, 129, 135, 0, 1126), (11, 285, 91, 0, 1130), (9, 37, 65, 0, 1134), (9, 48, 68, 0, 1135), (9, 51, 120, 1, 1136), (9, 55, 75, 0, 1137), (9, 59, 70, 0, 1141), (9, 62, 71, 0, 1142), (11, 289, 92, 0, 1143), (9, 73, 93, 0, 1147), (9, 66, 94, 0, 1151), (9, 83, 95, 0, 1155), (9, 70, 96, 0, 1159), (13, 133, 136, 0, 1163), (13, 137, 137, 0, 1167), (11, 305, 35, 0, 1171), (11, 309, 97, 0, 1172), (9, 92, 98, 0, 1176), (9, 106, 41, 0, 1180), (9, 102, 99, 0, 1181), (9, 110, 58, 0, 1185), (9, 114, 69, 0, 1186), (13, 141, 138, 0, 1187), (13, 149, 139, 0, 1191), (13, 153, 140, 0, 1195), (11, 327, 1, 0, 1199), (0, 40, 80, 0, 1203), (11, 331, 100, 0, 1204), (9, 76, 101, 0, 1208), (11, 335, 2, 0, 1212), (0, 49, 3, 0, 1216), (0, 53, 110, 1, 1220), (0, 64, 120, 1, 1221), (0, 68, 95, 0, 1222), (0, 76, 4, 0, 1225), (13, 160, 141, 0, 1229), (11, 359, 142, 0, 1233), (13, 56, 910, 0, 1237), (13, 7, 143, 0, 1241), (11, 121, 904, 0, 1285), (13, 74, 911, 0, 1310), (13, 15, 144, 0, 1313), (13, 103, 912, 0, 1319), (13, 19, 145, 0, 1322), (13, 110, 913, 0, 1327), (13, 22, 146, 0, 1330), (13, 145, 914, 0, 1335), (13, 26, 147, 0, 1338), (13, 157, 915, 0, 1343), (13, 30, 148, 0, 1346), (13, 36, 149, 0, 1353), (12, 1, 903, 0, 1356), (13, 62, 150, 0, 1556), (13, 41, 151, 0, 1560), (12, 151, 152, 0, 1564), (13, 46, 153, 0, 1568), (13, 51, 154, 0, 1572), (12, 282, 155, 0, 1576), (12, 211, 156, 0, 1580), (12, 170, 157, 0, 1584), (12, 174, 158, 0, 1587), (12, 187, 159, 0, 1590), (12, 285, 160, 0, 1596), (12, 222, 161, 0, 1600), (12, 214, 162, 0, 1604), (12, 218, 163, 0, 1607), (12, 273, 164, 0, 1611), (12, 201, 165, 0, 1615), (12, 248, 166, 0, 1619), (12, 241, 167, 0, 1623), (12, 226, 168, 0, 1627), (12, 229, 169, 0, 1631), (12, 232, 170, 0, 1635), (12, 235, 171, 0, 1639), (12, 238, 172, 0, 1643), (12, 244, 173, 0, 1647), (12, 251, 174, 0, 1651), (12, 204, 175, 0, 1655), (12, 276, 176, 0, 1658), (12, 255, 177, 0, 1662), (12, 262, 178, 0, 1666), (12, 265, 179, 0, 1670), (12, 258, 180, 0, 1673), (12, 279, 181, 0, 1679), (13, 55, 182, 0, 1683), (13, 61, 183, 0, 1687), (12, 288, 184, 0, 1691), (13, 68, 185, 0, 1695), (12, 301, 186, 0, 1699), (12, 305, 187, 0, 1704), (12, 294, 188, 0, 1708), (13, 73, 189, 0, 1712), (13, 77, 190, 0, 1716), (13, 81, 191, 0, 1720), (13, 86, 192, 0, 1724), (12, 333, 193, 0, 1728), (12, 336, 194, 0, 1731), (12, 326, 195, 0, 1735), (12, 311, 196, 0, 1739), (12, 314, 197, 0, 1743), (12, 317, 198, 0, 1747), (12, 354, 199, 0, 1751), (12, 339, 200, 0, 1755), (12, 329, 201, 0, 1759), (12, 342, 202, 0, 1763), (12, 357, 203, 0, 1767), (12, 361, 204, 0, 1771), (12, 346, 205, 0, 1775), (12, 350, 206, 0, 1779), (13, 90, 207, 0, 1783), (12, 365, 208, 0, 1787), (13, 94, 209, 0, 1790), (12, 382, 210, 0, 1794), (12, 373, 211, 0, 1799), (12, 386, 212, 0, 1806), (12, 390, 213, 0, 1809), (12, 394, 214, 0, 1813), (13, 98, 215, 0, 1819), (13, 102, 216, 0, 1823), (12, 402, 217, 0, 1827), (13, 105, 218, 0, 1831), (13, 109, 219, 0, 1835), (12, 408, 220, 0, 1839), (12, 412, 221, 0, 1843), (12, 416, 222, 0, 1847), (12, 405, 223, 0, 1851), (13, 112, 224, 0, 1855), (13, 116, 225, 0, 1859), (12, 420, 226, 0, 1863), (13, 120, 227, 0, 1867), (13, 124, 228, 0, 1871), (13, 128, 229, 0, 1875), (13, 132, 230, 0, 1879), (12, 424, 231, 0, 1883), (12, 430, 232, 0, 1887), (12, 433, 233, 0, 1891), (13, 136, 234, 0, 1895), (13, 140, 235, 0, 1899), (12, 436, 236, 0, 1903), (13, 144, 237, 0, 1907), (13, 148, 238, 0, 1911), (13, 152, 239, 0, 1915), (12, 442, 240, 0, 1919), (13, 156, 241, 0, 1923), (13, 159, 242, 0, 1929), (13, 163, 243, 0, 1933)]
def ab_nl : List (Nat × Nat × Nat × Nat) := [(13, 8, 11, 119), (11, 9, 8, 127), (11, 16, 2, 164), (2, 9, 10, 170), (11, 23, 3, 239), (11, 30, 5, 283), (11, 37, 7, 313), (11, 44, 4, 337), (11, 51, 9, 373), (11, 58, 0, 425), (11, 65, 6, 464), (11, 80, 1, 489), (13, 13, 900, 1240), (11, 117, 900, 1245), (13, 34, 12, 1351)]
def ab_kl : List (Nat × Nat × Nat × Nat × Nat) := [(10, 72, 0, 9999, 804), (10, 74, 1, 9999, 805), (11, 135, 1, 1, 835), (6, 22, 0, 1000000, 997), (6, 24, 1, 1000000, 998), (0, 72, 0, 200, 1223), (0, 74, 1, 200, 1224), (12, 191, 0, 27, 1594), (12, 193, 0, 96, 1595), (12, 269, 0, 9999, 1677), (12, 271, 1, 9999, 1678), (12, 303, 1, 1, 1703), (12, 371, 0, 8, 1798), (12, 376, 0, 729, 1803), (12, 378, 0, 405, 1804), (12, 380, 0, 114, 1805), (12, 398, 0, 1000000, 1817), (12, 400, 1, 1000000, 1818), (12, 445, 1, 200, 1927), (12, 447, 0, 200, 1928)]
def ab_mp : List (Nat × Nat × Nat × Nat × Nat) := [(429, 428, 0, 106, 2), (1202, 1200, 1201, 106, 0), (1215, 1213, 1214, 106, 0), (1219, 1218, 37, 106, 0), (1228, 1227, 38, 106, 0), (493, 492, 0, 108, 2), (642, 640, 641, 108, 0), (749, 747, 748, 108, 0), (765, 763, 764, 108, 0), (769, 768, 7, 108, 0), (809, 807, 808, 108, 0), (817, 815, 816, 108, 0), (168, 167, 0, 99, 2), (638, 636, 637, 99, 0), (728, 727, 2, 99, 0), (732, 731, 3, 99, 0), (737, 736, 4, 99, 0), (740, 739, 0, 99, 1), (753, 752, 5, 99, 0), (757, 756, 6, 99, 0), (773, 772, 8, 99, 0), (777, 776, 9, 99, 0), (781, 780, 10, 99, 0), (796, 795, 11, 99, 0), (799, 798, 0, 99, 1), (813, 812, 12, 99, 0), (243, 242, 0, 101, 2), (955, 953, 954, 101, 0), (959, 958, 0, 101, 1), (965, 964, 21, 101, 0), (969, 968, 22, 101, 0), (973, 972, 23, 101, 0), (341, 340, 0, 104, 2), (1036, 1034, 1035, 104, 0), (1040, 1038, 1039, 104, 0), (1045, 1043, 1044, 104, 0), (1049, 1048, 28, 104, 0), (1057, 1056, 29, 104, 0), (1061, 1060, 30, 104, 0), (1067, 1065, 1066, 104, 0), (1071, 1070, 31, 104, 0), (1075, 1073, 1074, 104, 0), (1079, 1077, 1078, 104, 0), (1091, 1089, 1090, 104, 0), (1095, 1094, 32, 104, 0), (1112, 1110, 1111, 104, 0), (287, 286, 0, 102, 2), (839, 837, 838, 102, 0), (843, 842, 14, 102, 0), (847, 846, 15, 102, 0), (851, 850, 16, 102, 0), (856, 855, 17, 102, 0), (868, 866, 867, 102, 0), (469, 468, 0, 107, 2), (923, 921, 922, 107, 0), (927, 925, 926, 107, 0), (931, 929, 930, 107, 0), (935, 934, 20, 107, 0), (939, 937, 938, 107, 0), (996, 994, 995, 107, 0), (1011, 1009, 1010, 107, 0), (1015, 1013, 1014, 107, 0), (1103, 1101, 1102, 107, 0), (1107, 1106, 33, 107, 0), (317, 316, 0, 103, 2), (883, 881, 882, 103, 0), (888, 887, 19, 103, 0), (891, 890, 0, 103, 1), (895, 893, 894, 103, 0), (911, 909, 910, 103, 0), (915, 913, 914, 103, 0), (919, 917, 918, 103, 0), (1027, 1025, 1026, 103, 0), (1053, 1051, 1052, 103, 0), (1120, 1118, 1119, 103, 0), (1140, 1138, 1139, 103, 0), (131, 130, 0, 98, 2), (626, 624, 625, 98, 0), (646, 644, 645, 98, 0), (650, 648, 649, 98, 0), (654, 652, 653, 98, 0), (657, 656, 0, 98, 1), (660, 659, 0, 98, 1), (663, 662, 0, 98, 1), (667, 666, 0, 98, 0), (671, 670, 1, 98, 0), (676, 674, 675, 98, 0), (761, 759, 760, 98, 0), (821, 819, 820, 98, 0), (947, 945, 946, 98, 0), (377, 376, 0, 105, 2), (1133, 1131, 1132, 105, 0), (1146, 1144, 1145, 105, 0), (1150, 1148, 1149, 105, 0), (1154, 1153, 34, 105, 0), (1158, 1156, 1157, 105, 0), (1162, 1160, 1161, 105, 0), (1175, 1173, 1174, 105, 0), (1179, 1178, 35, 105, 0), (1184, 1183, 36, 105, 0), (1207, 1205, 1206, 105, 0), (1211, 1209, 1210, 105, 0), (174, 173, 0, 100, 2), (785, 783, 784, 100, 0), (789, 787, 788, 100, 0), (803, 801, 802, 100, 0), (123, 122, 0, 97, 2), (622, 620, 621, 97, 0), (630, 628, 629, 97, 0), (634, 632, 633, 97, 0), (792, 791, 0, 97, 1), (826, 824, 825, 97, 0), (830, 828, 829, 97, 0), (834, 833, 13, 97, 0), (860, 858, 859, 97, 0), (864, 862, 863, 97, 0), (872, 870, 871, 97, 0), (875, 874, 0, 97, 1), (879, 878, 18, 97, 0), (898, 897, 0, 97, 1), (904, 903, 0, 97, 1), (943, 941, 942, 97, 0), (951, 949, 950, 97, 0), (983, 982, 24, 97, 0), (987, 986, 25, 97, 0), (991, 990, 26, 97, 0), (1003, 1001, 1002, 97, 0), (1007, 1005, 1006, 97, 0), (1019, 1017, 1018, 97, 0), (1023, 1022, 27, 97, 0), (1032, 1031, 0, 97, 1), (1087, 1085, 1086, 97, 0), (1099, 1097, 1098, 97, 0), (1116, 1114, 1115, 97, 0), (1124, 1122, 1123, 97, 0), (1129, 1127, 1128, 97, 0), (1166, 1164, 1165, 97, 0), (1170, 1168, 1169, 97, 0), (1190, 1188, 1189, 97, 0), (1194, 1192, 1193, 97, 0), (1198, 1196, 1197, 97, 0), (1232, 1230, 1231, 97, 0), (1236, 1235, 39, 97, 0), (1244, 1242, 1243, 97, 0), (1316, 1314, 1315, 97, 0), (1325, 1323, 1324, 97, 0), (1333, 1331, 1332, 97, 0), (1341, 1339, 1340, 97, 0), (1349, 1347, 1348, 97, 0), (1355, 1354, 0, 109, 2), (1559, 1557, 1558, 109, 0), (1563, 1561, 1562, 109, 0), (1567, 1566, 41, 109, 0), (1571, 1569, 1570, 109, 0), (1575, 1573, 1574, 109, 0), (1579, 1578, 42, 109, 0), (1583, 1582, 43, 109, 0), (1586, 1585, 0, 109, 1), (1589, 1588, 0, 109, 1), (1593, 1592, 44, 109, 0), (1599, 1598, 45, 109, 0), (1603, 1602, 46, 109, 0), (1606, 1605, 0, 109, 1), (1610, 1609, 47, 109, 0), (1614, 1613, 48, 109, 0), (1618, 1617, 49, 109, 0), (1622, 1621, 50, 109, 0), (1626, 1625, 51, 109, 0), (1630, 1629, 52, 109, 0), (1634, 1633, 53, 109, 0), (1638, 1637, 54, 109, 0), (1642, 1641, 55, 109, 0), (1646, 1645, 56, 109, 0), (1650, 1649, 57, 109, 0), (1654, 1653, 58, 109, 0), (1657, 1656, 0, 109, 1), (1661, 1660, 59, 109, 0), (1665, 1664, 60, 109, 0), (1669, 1668, 61, 109, 0), (1672, 1671, 0, 109, 1), (1676, 1675, 62, 109, 0), (1682, 1681, 63, 109, 0), (1686, 1684, 1685, 109, 0), (1690, 1688, 1689, 109, 0), (1694, 1693, 64, 109, 0), (1698, 1696, 1697, 109, 0), (1702, 1701, 65, 109, 0), (1707, 1706, 66, 109, 0), (1711, 1710, 67, 109, 0), (1715, 1713, 1714, 109, 0), (1719, 1717, 1718, 109, 0), (1723, 1721, 1722, 109, 0), (1727, 1725, 1726, 109, 0), (1730, 1729, 0, 109, 1), (1734, 1733, 68, 109, 0), (1738, 1737, 69, 109, 0), (1742, 1741, 70, 109, 0), (1746, 1745, 71, 109, 0), (1750, 1749, 72, 109, 0), (1754, 1753, 73, 109, 0), (1758, 1757, 74, 109, 0), (1762, 1761, 75, 109, 0), (1766, 1765, 76, 109, 0), (1770, 1769, 77, 109, 0), (1774, 1773, 78, 109, 0), (1778, 1777, 79, 109, 0), (1782, 1781, 80, 109, 0), (1786, 1784, 1785, 109, 0), (1789, 1788, 0, 109, 1), (1793, 1791, 1792, 109, 0), (1797, 1796, 81, 109, 0), (1802, 1801, 82, 109, 0), (1808, 1807, 0, 109, 1), (1812, 1811, 83, 109, 0), (1816, 1815, 84, 109, 0), (1822, 1820, 1821, 109, 0), (1826, 1824, 1825, 109, 0), (1830, 1829, 85, 109, 0), (1834, 1832, 1833, 109, 0), (1838, 1836, 1837, 109, 0), (1842, 1841, 86, 109, 0), (1846, 1845, 87, 109, 0), (1850, 1849, 88, 109, 0), (1854, 1853, 89, 109, 0), (1858, 1856, 1857, 109, 0), (1862, 1860, 1861, 109, 0), (1866, 1865, 90, 109, 0), (1870, 1868, 1869, 109, 0), (1874, 1872, 1873, 109, 0), (1878, 1876, 1877, 109, 0), (1882, 1880, 1881, 109, 0), (1886, 1885, 91, 109, 0), (1890, 1889, 92, 109, 0), (1894, 1893, 93, 109, 0), (1898, 1896, 1897, 109, 0), (1902, 1900, 1901, 109, 0), (1906, 1905, 94, 109, 0), (1910, 1908, 1909, 109, 0), (1914, 1912, 1913, 109, 0), (1918, 1916, 1917, 109, 0), (1922, 1921, 95, 109, 0), (1926, 1924, 1925, 109, 0), (1932, 1930, 1931, 109, 0), (1936, 1934, 1935, 109, 0), (1239, 1238, 0, 96, 11), (1312, 1311, 0, 96, 11), (1321, 1320, 0, 96, 11), (1329, 1328, 0, 96, 11), (1337, 1336, 0, 96, 11), (1345, 1344, 0, 96, 11), (901, 900, 0, 118, 1), (907, 906, 0, 118, 1), (680, 678, 679, 110, 0), (684, 682, 683, 110, 0), (690, 688, 689, 110, 0), (694, 692, 693, 110, 0), (700, 699, 0, 110, 1), (697, 696, 0, 111, 1), (705, 704, 0, 112, 1), (0, 0, 0, 0, 3)]
def ab_tab_0 : List ab_M := [(⟨"WheelPens$Box", "<init>", "()V"⟩, prog_2_method_1_code, 1, (Option.none : Option Jvm.ClassFile.FieldType), 1, 20, 0, k_0_0),
  (⟨"WheelPens$Box", "take", "(LWheelPens$Tape;I)Z"⟩, prog_2_method_2_code, 5, (Option.some Jvm.ClassFile.FieldType.boolean), 1, 21, 0, k_1_0),
  (⟨"WheelPens$Box", "findWays", "(LWheelPens$Told;)V"⟩, prog_2_method_3_code, 4, (Option.none : Option Jvm.ClassFile.FieldType), 4, 98, 0, k_2_0),
  (⟨"WheelPens$Box", "tryWay", "(LWheelPens$Told;III)V"⟩, prog_2_method_4_code, 15, (Option.none : Option Jvm.ClassFile.FieldType), 3, 64, 0, k_3_0),
  (⟨"WheelPens$Box", "keepWay", "(IIII)V"⟩, prog_2_method_5_code, 5, (Option.none : Option Jvm.ClassFile.FieldType), 0, 0, 0, k_4_0),
  (⟨"WheelPens$Kit", "<init>", "()V"⟩, prog_3_method_1_code, 1, (Option.none : Option Jvm.ClassFile.FieldType), 1, 20, 1, k_5_0),
  (⟨"WheelPens$Kit", "clear", "()V"⟩, prog_3_method_2_code, 1, (Option.none : Option Jvm.ClassFile.FieldType), 0, 0, 1, k_6_0),
  (⟨"WheelPens$Kit", "entryOf", "(I)I"⟩, prog_3_method_3_code, 3, (Option.some Jvm.ClassFile.FieldType.int), 0, 0, 1, k_7_0),
  (⟨"WheelPens$Kit", "addRing", "(II)V"⟩, prog_3_method_5_code, 3, (Option.none : Option Jvm.ClassFile.FieldType), 1, 23, 1, k_8_0),
  (⟨"WheelPens$Kit", "addName", "(III)V"⟩, prog_3_method_4_code, 4, (Option.none : Option Jvm.ClassFile.FieldType), 0, 0, 1, k_9_0),
  (⟨"WheelPens$Kit", "addWheel", "(ILWheelPens$WheelLine;)V"⟩, prog_3_method_6_code, 3, (Option.none : Option Jvm.ClassFile.FieldType), 1, 23, 1, k_10_0),
  (⟨"WheelPens$Kit", "addPen", "(III)V"⟩, prog_3_method_7_code, 4, (Option.none : Option Jvm.ClassFile.FieldType), 1, 23, 1, k_11_0),
  (⟨"WheelPens$KitReader", "<init>", "()V"⟩, prog_4_method_1_code, 1, (Option.none : Option Jvm.ClassFile.FieldType), 2, 40, 2, k_12_0),
  (⟨"WheelPens$KitReader", "read", "(LWheelPens$Tape;LWheelPens$Kit;)Z"⟩, prog_4_method_2_code, 5, (Option.some Jvm.ClassFile.FieldType.boolean), 9, 196, 2, k_13_0),
  (⟨"WheelPens$KitReader", "readRing", "(LWheelPens$Tape;LWheelPens$Kit;)Z"⟩, prog_4_method_4_code, 5, (Option.some Jvm.ClassFile.FieldType.boolean), 8, 170, 2, k_14_0),
  (⟨"WheelPens$KitReader", "fail", "(LWheelPens$Tape;I)Z"⟩, prog_4_method_3_code, 3, (Option.some Jvm.ClassFile.FieldType.boolean), 0, 0, 2, k_15_0),
  (⟨"WheelPens$KitReader", "passNewName", "(LWheelPens$Tape;LWheelPens$Kit;)Z"⟩, prog_4_method_8_code, 3, (Option.some Jvm.ClassFile.FieldType.boolean), 7, 148, 2, k_16_0),
  (⟨"WheelPens$KitReader", "isName", "(LWheelPens$Tape;)Z"⟩, prog_4_method_7_code, 1, (Option.some Jvm.ClassFile.FieldType.boolean), 6, 128, 2, k_17_0),
  (⟨"WheelPens$KitReader", "passNumber", "(LWheelPens$Tape;II)Z"⟩, prog_4_method_9_code, 4, (Option.some Jvm.ClassFile.FieldType.boolean), 3, 66, 2, k_18_0),
  (⟨"WheelPens$KitReader", "passSign", "(LWheelPens$Tape;C)Z"⟩, prog_4_method_10_code, 3, (Option.some Jvm.ClassFile.FieldType.boolean), 3, 66, 2, k_19_0),
  (⟨"WheelPens$KitReader", "readWheel", "(LWheelPens$Tape;LWheelPens$Kit;)Z"⟩, prog_4_method_5_code, 4, (Option.some Jvm.ClassFile.FieldType.boolean), 8, 171, 2, k_20_0),
  (⟨"WheelPens$KitReader", "passInOrOn", "(LWheelPens$Tape;)Z"⟩, prog_4_method_12_code, 2, (Option.some Jvm.ClassFile.FieldType.boolean), 6, 128, 2, k_21_0),
  (⟨"WheelPens$KitReader", "passBase", "(LWheelPens$Tape;LWheelPens$Kit;)Z"⟩, prog_4_method_13_code, 4, (Option.some Jvm.ClassFile.FieldType.boolean), 7, 148, 2, k_22_0),
  (⟨"WheelPens$KitReader", "passAt", "(LWheelPens$Tape;)Z"⟩, prog_4_method_14_code, 5, (Option.some Jvm.ClassFile.FieldType.boolean), 4, 89, 2, k_23_0),
  (⟨"WheelPens$KitReader", "passMinus", "(LWheelPens$Tape;)Z"⟩, prog_4_method_11_code, 1, (Option.some Jvm.ClassFile.FieldType.boolean), 3, 66, 2, k_24_0)]
def ab_tab_1 : List ab_M := [(⟨"WheelPens$KitReader", "readPen", "(LWheelPens$Tape;LWheelPens$Kit;)Z"⟩, prog_4_method_6_code, 7, (Option.some Jvm.ClassFile.FieldType.boolean), 8, 170, 2, k_25_0),
  (⟨"WheelPens$MixReader", "<init>", "()V"⟩, prog_5_method_1_code, 1, (Option.none : Option Jvm.ClassFile.FieldType), 1, 20, 3, k_26_0),
  (⟨"WheelPens$MixReader", "read", "(LWheelPens$Tape;[LWheelPens$Sheet;)Z"⟩, prog_5_method_2_code, 5, (Option.some Jvm.ClassFile.FieldType.boolean), 8, 178, 3, k_27_0),
  (⟨"WheelPens$MixReader", "isAnySign", "(LWheelPens$Tape;)Z"⟩, prog_5_method_3_code, 1, (Option.some Jvm.ClassFile.FieldType.boolean), 1, 21, 3, k_28_0),
  (⟨"WheelPens$MixReader", "readPart", "(LWheelPens$Tape;[LWheelPens$Sheet;I)Z"⟩, prog_5_method_5_code, 8, (Option.some Jvm.ClassFile.FieldType.boolean), 7, 151, 3, k_29_0),
  (⟨"WheelPens$MixReader", "fail", "(LWheelPens$Tape;I)Z"⟩, prog_5_method_4_code, 3, (Option.some Jvm.ClassFile.FieldType.boolean), 0, 0, 3, k_30_0),
  (⟨"WheelPens$MixReader", "readChanges", "(LWheelPens$Tape;)Z"⟩, prog_5_method_6_code, 4, (Option.some Jvm.ClassFile.FieldType.boolean), 6, 128, 3, k_31_0),
  (⟨"WheelPens$Orbits", "<init>", "()V"⟩, prog_6_method_1_code, 1, (Option.none : Option Jvm.ClassFile.FieldType), 1, 20, 4, k_32_0),
  (⟨"WheelPens$Orbits", "begin", "(LWheelPens$Sums;)V"⟩, prog_6_method_2_code, 2, (Option.none : Option Jvm.ClassFile.FieldType), 0, 0, 4, k_33_0),
  (⟨"WheelPens$Orbits", "placeSheet", "(LWheelPens$Sums;LWheelPens$Sheet;I)V"⟩, prog_6_method_3_code, 6, (Option.none : Option Jvm.ClassFile.FieldType), 3, 74, 4, k_34_0),
  (⟨"WheelPens$Orbits", "place", "(LWheelPens$Sums;I[JI)V"⟩, prog_6_method_5_code, 7, (Option.none : Option Jvm.ClassFile.FieldType), 2, 48, 4, k_35_0),
  (⟨"WheelPens$Orbits", "turnToLeast", "(LWheelPens$Sums;)I"⟩, prog_6_method_6_code, 5, (Option.some Jvm.ClassFile.FieldType.int), 1, 24, 4, k_36_0),
  (⟨"WheelPens$Orbits", "turnedIsLess", "()Z"⟩, prog_6_method_7_code, 2, (Option.some Jvm.ClassFile.FieldType.boolean), 0, 0, 4, k_37_0),
  (⟨"WheelPens$Orbits", "kindOfLeast", "()I"⟩, prog_6_method_8_code, 2, (Option.some Jvm.ClassFile.FieldType.int), 1, 25, 4, k_38_0),
  (⟨"WheelPens$Orbits", "turningsOnto", "(I)I"⟩, prog_6_method_10_code, 6, (Option.some Jvm.ClassFile.FieldType.int), 4, 89, 4, k_39_0),
  (⟨"WheelPens$Orbits", "isAmongFirst", "(II)Z"⟩, prog_6_method_11_code, 4, (Option.some Jvm.ClassFile.FieldType.boolean), 3, 66, 4, k_40_0),
  (⟨"WheelPens$Orbits", "isTurned", "(III)Z"⟩, prog_6_method_9_code, 4, (Option.some Jvm.ClassFile.FieldType.boolean), 2, 43, 4, k_41_0),
  (⟨"WheelPens$Orbits", "placeMirrored", "(LWheelPens$Sums;LWheelPens$Sheet;I)V"⟩, prog_6_method_4_code, 6, (Option.none : Option Jvm.ClassFile.FieldType), 3, 74, 4, k_42_0),
  (⟨"WheelPens$Orbits", "firstMatch", "()I"⟩, prog_6_method_12_code, 3, (Option.some Jvm.ClassFile.FieldType.int), 4, 91, 4, k_43_0),
  (⟨"WheelPens$Orbits", "matches", "(III)Z"⟩, prog_6_method_14_code, 6, (Option.some Jvm.ClassFile.FieldType.boolean), 3, 66, 4, k_44_0),
  (⟨"WheelPens$Orbits", "selves", "()I"⟩, prog_6_method_13_code, 4, (Option.some Jvm.ClassFile.FieldType.int), 4, 91, 4, k_45_0),
  (⟨"WheelPens$PenArms", "<init>", "()V"⟩, prog_7_method_1_code, 1, (Option.none : Option Jvm.ClassFile.FieldType), 1, 20, 5, k_46_0),
  (⟨"WheelPens$PenArms", "gather", "(LWheelPens$Kit;I)V"⟩, prog_7_method_2_code, 5, (Option.none : Option Jvm.ClassFile.FieldType), 2, 53, 5, k_47_0),
  (⟨"WheelPens$PenArms", "join", "(JJJ)V"⟩, prog_7_method_3_code, 8, (Option.none : Option Jvm.ClassFile.FieldType), 0, 0, 5, k_48_0),
  (⟨"WheelPens$PenArms", "dropEmpty", "()V"⟩, prog_7_method_4_code, 3, (Option.none : Option Jvm.ClassFile.FieldType), 0, 0, 5, k_49_0)]
def ab_tab_2 : List ab_M := [(⟨"WheelPens$PenArms", "findWindings", "()V"⟩, prog_7_method_5_code, 4, (Option.none : Option Jvm.ClassFile.FieldType), 1, 30, 5, k_50_0),
  (⟨"WheelPens$PenArms", "sortByWinding", "()V"⟩, prog_7_method_6_code, 7, (Option.none : Option Jvm.ClassFile.FieldType), 0, 0, 5, k_51_0),
  (⟨"WheelPens$PenArms", "lobeNumber", "()J"⟩, prog_7_method_7_code, 4, (Option.some Jvm.ClassFile.FieldType.long), 1, 30, 5, k_52_0),
  (⟨"WheelPens$Sheet", "<init>", "()V"⟩, prog_8_method_1_code, 1, (Option.none : Option Jvm.ClassFile.FieldType), 1, 20, 6, k_53_0),
  (⟨"WheelPens$Sheet", "fill", "(II[J)V"⟩, prog_8_method_3_code, 5, (Option.none : Option Jvm.ClassFile.FieldType), 0, 0, 6, k_54_0),
  (⟨"WheelPens$Sheet", "unlike", "()I"⟩, prog_8_method_7_code, 3, (Option.some Jvm.ClassFile.FieldType.int), 3, 70, 6, k_55_0),
  (⟨"WheelPens$Sheet", "firstLike", "(LWheelPens$Sheet;I)I"⟩, prog_8_method_5_code, 4, (Option.some Jvm.ClassFile.FieldType.int), 2, 47, 6, k_56_0),
  (⟨"WheelPens$Sheet", "isLike", "(ILWheelPens$Sheet;I)Z"⟩, prog_8_method_6_code, 5, (Option.some Jvm.ClassFile.FieldType.boolean), 1, 23, 6, k_57_0),
  (⟨"WheelPens$Sheet", "number", "(II)J"⟩, prog_8_method_2_code, 4, (Option.some Jvm.ClassFile.FieldType.long), 0, 0, 6, k_58_0),
  (⟨"WheelPens$Sheet", "fillIfWithin", "(II[J)Z"⟩, prog_8_method_4_code, 5, (Option.some Jvm.ClassFile.FieldType.boolean), 1, 24, 6, k_59_0),
  (⟨"WheelPens$Sheet", "mostOften", "()I"⟩, prog_8_method_8_code, 5, (Option.some Jvm.ClassFile.FieldType.int), 2, 47, 6, k_60_0),
  (⟨"WheelPens$Sheet", "firstAgain", "()I"⟩, prog_8_method_9_code, 2, (Option.some Jvm.ClassFile.FieldType.int), 3, 70, 6, k_61_0),
  (⟨"WheelPens$Sheet", "period", "()I"⟩, prog_8_method_10_code, 2, (Option.some Jvm.ClassFile.FieldType.int), 3, 69, 6, k_62_0),
  (⟨"WheelPens$Sheet", "comesRound", "(I)Z"⟩, prog_8_method_11_code, 3, (Option.some Jvm.ClassFile.FieldType.boolean), 2, 47, 6, k_63_0),
  (⟨"WheelPens$Sums", "<init>", "()V"⟩, prog_9_method_1_code, 1, (Option.none : Option Jvm.ClassFile.FieldType), 1, 20, 7, k_64_0),
  (⟨"WheelPens$Sums", "choose", "(I)V"⟩, prog_9_method_2_code, 3, (Option.none : Option Jvm.ClassFile.FieldType), 2, 46, 7, k_65_0),
  (⟨"WheelPens$Sums", "findLeast", "()V"⟩, prog_9_method_3_code, 4, (Option.none : Option Jvm.ClassFile.FieldType), 1, 23, 7, k_66_0),
  (⟨"WheelPens$Sums", "moebius", "(I)I"⟩, prog_9_method_4_code, 4, (Option.some Jvm.ClassFile.FieldType.int), 0, 0, 7, k_67_0),
  (⟨"WheelPens$Sums", "clear", "()V"⟩, prog_9_method_5_code, 2, (Option.none : Option Jvm.ClassFile.FieldType), 0, 0, 7, k_68_0),
  (⟨"WheelPens$Sums", "add", "(IJ)V"⟩, prog_9_method_6_code, 4, (Option.none : Option Jvm.ClassFile.FieldType), 0, 0, 7, k_69_0),
  (⟨"WheelPens$Sums", "reduce", "()V"⟩, prog_9_method_7_code, 5, (Option.none : Option Jvm.ClassFile.FieldType), 0, 0, 7, k_70_0),
  (⟨"WheelPens$Sums", "store", "([JI)V"⟩, prog_9_method_8_code, 4, (Option.none : Option Jvm.ClassFile.FieldType), 0, 0, 7, k_71_0),
  (⟨"WheelPens$Sums", "addMirroredProduct", "(LWheelPens$Sheet;III)V"⟩, prog_9_method_12_code, 9, (Option.none : Option Jvm.ClassFile.FieldType), 1, 23, 7, k_72_0),
  (⟨"WheelPens$Sums", "turnOnce", "([J)V"⟩, prog_9_method_10_code, 5, (Option.none : Option Jvm.ClassFile.FieldType), 0, 0, 7, k_73_0),
  (⟨"WheelPens$Sums", "addProduct", "(LWheelPens$Sheet;LWheelPens$Sheet;I)V"⟩, prog_9_method_11_code, 8, (Option.none : Option Jvm.ClassFile.FieldType), 1, 23, 7, k_74_0)]
def ab_tab_3 : List ab_M := [(⟨"WheelPens$Sums", "addTurned", "(LWheelPens$Sheet;II)V"⟩, prog_9_method_9_code, 8, (Option.none : Option Jvm.ClassFile.FieldType), 0, 0, 7, k_75_0),
  (⟨"WheelPens$Tape", "<init>", "()V"⟩, prog_10_method_1_code, 1, (Option.none : Option Jvm.ClassFile.FieldType), 1, 20, 8, k_76_0),
  (⟨"WheelPens$Tape", "append", "(I)V"⟩, prog_10_method_2_code, 3, (Option.none : Option Jvm.ClassFile.FieldType), 0, 0, 8, k_77_0),
  (⟨"WheelPens$Tape", ("ope" ++ "n"), "(I)V"⟩, prog_10_method_5_code, 2, (Option.none : Option Jvm.ClassFile.FieldType), 3, 66, 8, k_78_0),
  (⟨"WheelPens$Tape", "advance", "()V"⟩, prog_10_method_7_code, 1, (Option.none : Option Jvm.ClassFile.FieldType), 2, 46, 8, k_79_0),
  (⟨"WheelPens$Tape", "byteAt", "(I)I"⟩, prog_10_method_3_code, 2, (Option.some Jvm.ClassFile.FieldType.int), 0, 0, 8, k_80_0),
  (⟨"WheelPens$Tape", "isBlank", "(I)Z"⟩, prog_10_method_12_code, 1, (Option.some Jvm.ClassFile.FieldType.boolean), 0, 0, 8, k_81_0),
  (⟨"WheelPens$Tape", "isLetter", "(I)Z"⟩, prog_10_method_13_code, 1, (Option.some Jvm.ClassFile.FieldType.boolean), 0, 0, 8, k_82_0),
  (⟨"WheelPens$Tape", "isDigit", "(I)Z"⟩, prog_10_method_14_code, 1, (Option.some Jvm.ClassFile.FieldType.boolean), 0, 0, 8, k_83_0),
  (⟨"WheelPens$Tape", "readRun", "()V"⟩, prog_10_method_8_code, 6, (Option.none : Option Jvm.ClassFile.FieldType), 1, 21, 8, k_84_0),
  (⟨"WheelPens$Tape", "readSign", "()V"⟩, prog_10_method_9_code, 2, (Option.none : Option Jvm.ClassFile.FieldType), 1, 21, 8, k_85_0),
  (⟨"WheelPens$Tape", "isWord", "(Ljava/lang/String;)Z"⟩, prog_10_method_10_code, 3, (Option.some Jvm.ClassFile.FieldType.boolean), 5, 106, 8, k_86_0),
  (⟨"WheelPens$Tape", "isSign", "(C)Z"⟩, prog_10_method_11_code, 2, (Option.some Jvm.ClassFile.FieldType.boolean), 0, 0, 8, k_87_0),
  (⟨"WheelPens$Tape", "isCut", "()Z"⟩, prog_10_method_6_code, 1, (Option.some Jvm.ClassFile.FieldType.boolean), 0, 0, 8, k_88_0),
  (⟨"WheelPens$Tape", "signedByte", "(I)I"⟩, prog_10_method_4_code, 3, (Option.some Jvm.ClassFile.FieldType.int), 1, 21, 8, k_89_0),
  (⟨"WheelPens$Told", "<init>", "()V"⟩, prog_11_method_1_code, 1, (Option.none : Option Jvm.ClassFile.FieldType), 1, 20, 9, k_90_0),
  (⟨"WheelPens$Told", "readBack", "(LWheelPens$Sums;LWheelPens$Sheet;)V"⟩, prog_11_method_2_code, 5, (Option.none : Option Jvm.ClassFile.FieldType), 3, 68, 9, k_91_0),
  (⟨"WheelPens$Told", "keep", "()V"⟩, prog_11_method_9_code, 2, (Option.none : Option Jvm.ClassFile.FieldType), 3, 64, 9, k_92_0),
  (⟨"WheelPens$Told", "isThere", "(I)Z"⟩, prog_11_method_3_code, 2, (Option.some Jvm.ClassFile.FieldType.boolean), 1, 22, 9, k_93_0),
  (⟨"WheelPens$Told", "isWhole", "(I)Z"⟩, prog_11_method_4_code, 3, (Option.some Jvm.ClassFile.FieldType.boolean), 0, 0, 9, k_94_0),
  (⟨"WheelPens$Told", "spanOf", "(I)J"⟩, prog_11_method_6_code, 2, (Option.some Jvm.ClassFile.FieldType.long), 2, 43, 9, k_95_0),
  (⟨"WheelPens$Told", "isPlain", "(I)Z"⟩, prog_11_method_5_code, 2, (Option.some Jvm.ClassFile.FieldType.boolean), 1, 22, 9, k_96_0),
  (⟨"WheelPens$Told", "putRight", "(LWheelPens$Sums;LWheelPens$Sheet;LWheelPens$Orbits;)I"⟩, prog_11_method_10_code, 7, (Option.some Jvm.ClassFile.FieldType.int), 4, 91, 9, k_97_0),
  (⟨"WheelPens$Told", "findMostAlike", "(LWheelPens$Orbits;I)V"⟩, prog_11_method_11_code, 6, (Option.none : Option Jvm.ClassFile.FieldType), 3, 66, 9, k_98_0),
  (⟨"WheelPens$Told", "setInPlace", "(LWheelPens$Sums;LWheelPens$Sheet;I)V"⟩, prog_11_method_12_code, 5, (Option.none : Option Jvm.ClassFile.FieldType), 2, 43, 9, k_99_0)]
def ab_tab_4 : List ab_M := [(⟨"WheelPens$Told", "hasTwoPlain", "()Z"⟩, prog_11_method_8_code, 3, (Option.some Jvm.ClassFile.FieldType.boolean), 3, 65, 9, k_100_0),
  (⟨"WheelPens$Told", "nextThere", "(I)I"⟩, prog_11_method_7_code, 3, (Option.some Jvm.ClassFile.FieldType.int), 2, 43, 9, k_101_0),
  (⟨"WheelPens$WheelLine", "<init>", "()V"⟩, prog_12_method_1_code, 1, (Option.none : Option Jvm.ClassFile.FieldType), 1, 20, 10, k_102_0),
  (⟨"WheelPens$WheelLine", "stand", "(LWheelPens$Kit;I)V"⟩, prog_12_method_2_code, 4, (Option.none : Option Jvm.ClassFile.FieldType), 0, 0, 10, k_103_0),
  (⟨"WheelPens$WheelLine", "turnAt", "(II)V"⟩, prog_12_method_3_code, 4, (Option.none : Option Jvm.ClassFile.FieldType), 1, 30, 10, k_104_0),
  (⟨"WheelPens$WheelLine", "findSpin", "()Z"⟩, prog_12_method_4_code, 11, (Option.some Jvm.ClassFile.FieldType.boolean), 1, 30, 10, k_105_0),
  (⟨"WheelPens", "<init>", "()V"⟩, prog_1_method_1_code, 2, (Option.none : Option Jvm.ClassFile.FieldType), 3, 60, 11, k_106_0),
  (⟨"WheelPens", "feed", "(IIIII)I"⟩, prog_1_method_2_code, 6, (Option.some Jvm.ClassFile.FieldType.int), 1, 22, 11, k_107_0),
  (⟨"WheelPens", "end", "(I)Z"⟩, prog_1_method_3_code, 2, (Option.some Jvm.ClassFile.FieldType.boolean), 0, 0, 11, k_108_0),
  (⟨"WheelPens", "kit", "()I"⟩, prog_1_method_4_code, 3, (Option.some Jvm.ClassFile.FieldType.int), 10, 220, 11, k_109_0),
  (⟨"WheelPens", "commonDivisor", "(JJ)J"⟩, prog_1_method_43_code, 11, (Option.some Jvm.ClassFile.FieldType.long), 0, 0, 11, k_110_0),
  (⟨"WheelPens", "fault", "()I"⟩, prog_1_method_5_code, 1, (Option.some Jvm.ClassFile.FieldType.int), 0, 0, 11, k_111_0),
  (⟨"WheelPens", "closes", "(I)J"⟩, prog_1_method_7_code, 2, (Option.some Jvm.ClassFile.FieldType.long), 3, 77, 11, k_112_0),
  (⟨"WheelPens", "isPen", "(I)Z"⟩, prog_1_method_32_code, 2, (Option.some Jvm.ClassFile.FieldType.boolean), 0, 0, 11, k_113_0),
  (⟨"WheelPens", "arms", "(I)I"⟩, prog_1_method_8_code, 2, (Option.some Jvm.ClassFile.FieldType.int), 3, 77, 11, k_114_0),
  (⟨"WheelPens", "lobes", "(I)J"⟩, prog_1_method_10_code, 2, (Option.some Jvm.ClassFile.FieldType.long), 3, 77, 11, k_115_0),
  (⟨"WheelPens", "draw", "(III)I"⟩, prog_1_method_11_code, 4, (Option.some Jvm.ClassFile.FieldType.int), 4, 103, 11, k_116_0),
  (⟨"WheelPens", "isSheet", "(I)Z"⟩, prog_1_method_33_code, 1, (Option.some Jvm.ClassFile.FieldType.boolean), 0, 0, 11, k_117_0),
  (⟨"WheelPens", "drawInto", "(LWheelPens$Sheet;II)V"⟩, prog_1_method_36_code, 7, (Option.none : Option Jvm.ClassFile.FieldType), 3, 77, 11, k_118_0),
  (⟨"WheelPens", "wrapLong", "(JI)I"⟩, prog_1_method_42_code, 3, (Option.some Jvm.ClassFile.FieldType.int), 1, 25, 11, k_119_0),
  (⟨"WheelPens", "wrap", "(II)I"⟩, prog_1_method_41_code, 2, (Option.some Jvm.ClassFile.FieldType.int), 1, 22, 11, k_120_0),
  (⟨"WheelPens", "tell", "(I)I"⟩, prog_1_method_12_code, 5, (Option.some Jvm.ClassFile.FieldType.int), 3, 68, 11, k_121_0),
  (⟨"WheelPens", "mix", "(I)I"⟩, prog_1_method_13_code, 4, (Option.some Jvm.ClassFile.FieldType.int), 9, 202, 11, k_122_0),
  (⟨"WheelPens", "mixInto", "(LWheelPens$Sheet;)I"⟩, prog_1_method_37_code, 6, (Option.some Jvm.ClassFile.FieldType.int), 3, 70, 11, k_123_0),
  (⟨"WheelPens", "sheetThatIs", "(I)LWheelPens$Sheet;"⟩, prog_1_method_34_code, 3, (Option.some (Jvm.ClassFile.FieldType.object "WheelPens$Sheet")), 1, 20, 11, k_124_0)]
def ab_tab_5 : List ab_M := [(⟨"WheelPens", "addPart", "(II)V"⟩, prog_1_method_38_code, 8, (Option.none : Option Jvm.ClassFile.FieldType), 2, 43, 11, k_125_0),
  (⟨"WheelPens", "wipe", "(I)Z"⟩, prog_1_method_14_code, 3, (Option.some Jvm.ClassFile.FieldType.boolean), 2, 42, 11, k_126_0),
  (⟨"WheelPens", "about", "(II)I"⟩, prog_1_method_15_code, 4, (Option.some Jvm.ClassFile.FieldType.int), 4, 92, 11, k_127_0),
  (⟨"WheelPens", "same", "(II)I"⟩, prog_1_method_17_code, 4, (Option.some Jvm.ClassFile.FieldType.int), 5, 114, 11, k_128_0),
  (⟨"WheelPens", "distances", "(LWheelPens$Sheet;)I"⟩, prog_1_method_39_code, 6, (Option.some Jvm.ClassFile.FieldType.int), 2, 51, 11, k_129_0),
  (⟨"WheelPens", "likeRows", "([JI[JII)Z"⟩, prog_1_method_40_code, 6, (Option.some Jvm.ClassFile.FieldType.boolean), 0, 0, 11, k_130_0),
  (⟨"WheelPens", "one", "(II)I"⟩, prog_1_method_19_code, 8, (Option.some Jvm.ClassFile.FieldType.int), 5, 113, 11, k_131_0),
  (⟨"WheelPens", "again", "(II)I"⟩, prog_1_method_20_code, 4, (Option.some Jvm.ClassFile.FieldType.int), 5, 114, 11, k_132_0),
  (⟨"WheelPens", "product", "(III)I"⟩, prog_1_method_21_code, 7, (Option.some Jvm.ClassFile.FieldType.int), 3, 68, 11, k_133_0),
  (⟨"WheelPens", "shared", "(II)I"⟩, prog_1_method_22_code, 7, (Option.some Jvm.ClassFile.FieldType.int), 3, 70, 11, k_134_0),
  (⟨"WheelPens", "back", "(I)I"⟩, prog_1_method_23_code, 3, (Option.some Jvm.ClassFile.FieldType.int), 4, 92, 11, k_135_0),
  (⟨"WheelPens", "backAt", "(II)J"⟩, prog_1_method_24_code, 3, (Option.some Jvm.ClassFile.FieldType.long), 0, 0, 11, k_136_0),
  (⟨"WheelPens", "right", "(I)I"⟩, prog_1_method_25_code, 4, (Option.some Jvm.ClassFile.FieldType.int), 5, 117, 11, k_137_0),
  (⟨"WheelPens", "wrong", "()I"⟩, prog_1_method_26_code, 1, (Option.some Jvm.ClassFile.FieldType.int), 0, 0, 11, k_138_0),
  (⟨"WheelPens", "drawnBy", "(I)I"⟩, prog_1_method_28_code, 6, (Option.some Jvm.ClassFile.FieldType.int), 5, 113, 11, k_139_0),
  (⟨"WheelPens", "made", "(II)I"⟩, prog_1_method_29_code, 5, (Option.some Jvm.ClassFile.FieldType.int), 5, 121, 11, k_140_0),
  (⟨"WheelPens", "count", "(I)I"⟩, prog_1_method_31_code, 2, (Option.some Jvm.ClassFile.FieldType.int), 3, 64, 11, k_141_0),
  (⟨"WheelPens", "sheetsThatAre", "()I"⟩, prog_1_method_35_code, 3, (Option.some Jvm.ClassFile.FieldType.int), 2, 42, 11, k_142_0),
  (⟨"WheelPens", "spin", "(II)I"⟩, prog_1_method_6_code, 3, (Option.some Jvm.ClassFile.FieldType.int), 6, 104, 11, k_143_0),
  (⟨"WheelPens", "arm", "(III)J"⟩, prog_1_method_9_code, 4, (Option.some Jvm.ClassFile.FieldType.long), 6, 104, 11, k_144_0),
  (⟨"WheelPens", "point", "(III)J"⟩, prog_1_method_16_code, 5, (Option.some Jvm.ClassFile.FieldType.long), 6, 104, 11, k_145_0),
  (⟨"WheelPens", "area", "(II)J"⟩, prog_1_method_18_code, 6, (Option.some Jvm.ClassFile.FieldType.long), 6, 104, 11, k_146_0),
  (⟨"WheelPens", "rightAt", "(I)J"⟩, prog_1_method_27_code, 2, (Option.some Jvm.ClassFile.FieldType.long), 6, 104, 11, k_147_0),
  (⟨"WheelPens", "madeAt", "(II)I"⟩, prog_1_method_30_code, 3, (Option.some Jvm.ClassFile.FieldType.int), 6, 104, 11, k_148_0),
  (⟨"WheelPensModel", "<init>", "()V"⟩, prog_14_method_1_code, 1, (Option.none : Option Jvm.ClassFile.FieldType), 1, 20, 12, k_149_0)]
def ab_tab_6 : List ab_M := [(⟨"WheelPensModel", "thrown", "()I"⟩, prog_14_method_2_code, 1, (Option.some Jvm.ClassFile.FieldType.int), 0, 0, 12, k_150_0),
  (⟨"WheelPensModel", "feed", "(IIIII)I"⟩, prog_14_method_5_code, 6, (Option.some Jvm.ClassFile.FieldType.int), 1, 22, 12, k_151_0),
  (⟨"WheelPensModel", "come", "(I)V"⟩, prog_14_method_4_code, 3, (Option.none : Option Jvm.ClassFile.FieldType), 0, 0, 12, k_152_0),
  (⟨"WheelPensModel", "end", "(I)Z"⟩, prog_14_method_6_code, 2, (Option.some Jvm.ClassFile.FieldType.boolean), 0, 0, 12, k_153_0),
  (⟨"WheelPensModel", "kit", "()I"⟩, prog_14_method_34_code, 3, (Option.some Jvm.ClassFile.FieldType.int), 6, 140, 12, k_154_0),
  (⟨"WheelPensModel", "take", "()I"⟩, prog_14_method_7_code, 2, (Option.some Jvm.ClassFile.FieldType.int), 0, 0, 12, k_155_0),
  (⟨"WheelPensModel", "go", "()V"⟩, prog_14_method_12_code, 5, (Option.none : Option Jvm.ClassFile.FieldType), 1, 21, 12, k_156_0),
  (⟨"WheelPensModel", "isLetter", "(I)Z"⟩, prog_14_method_11_code, 1, (Option.some Jvm.ClassFile.FieldType.boolean), 0, 0, 12, k_157_0),
  (⟨"WheelPensModel", "isDigit", "(I)Z"⟩, prog_14_method_10_code, 1, (Option.some Jvm.ClassFile.FieldType.boolean), 0, 0, 12, k_158_0),
  (⟨"WheelPensModel", "byteAt", "(I)I"⟩, prog_14_method_9_code, 2, (Option.some Jvm.ClassFile.FieldType.int), 0, 0, 12, k_159_0),
  (⟨"WheelPensModel", "readLine", "()Z"⟩, prog_14_method_33_code, 2, (Option.some Jvm.ClassFile.FieldType.boolean), 5, 119, 12, k_160_0),
  (⟨"WheelPensModel", "isRing", "()Z"⟩, prog_14_method_18_code, 1, (Option.some Jvm.ClassFile.FieldType.boolean), 1, 26, 12, k_161_0),
  (⟨"WheelPensModel", "spelt", "(IIIII)J"⟩, prog_14_method_13_code, 7, (Option.some Jvm.ClassFile.FieldType.long), 0, 0, 12, k_162_0),
  (⟨"WheelPensModel", "isKey", "(J)Z"⟩, prog_14_method_14_code, 3, (Option.some Jvm.ClassFile.FieldType.boolean), 0, 0, 12, k_163_0),
  (⟨"WheelPensModel", "readRing", "()Z"⟩, prog_14_method_28_code, 1, (Option.some Jvm.ClassFile.FieldType.boolean), 4, 87, 12, k_164_0),
  (⟨"WheelPensModel", "bad", "(I)Z"⟩, prog_14_method_16_code, 2, (Option.some Jvm.ClassFile.FieldType.boolean), 0, 0, 12, k_165_0),
  (⟨"WheelPensModel", "readNew", "(I)Z"⟩, prog_14_method_26_code, 2, (Option.some Jvm.ClassFile.FieldType.boolean), 3, 66, 12, k_166_0),
  (⟨"WheelPensModel", "isName", "()Z"⟩, prog_14_method_24_code, 1, (Option.some Jvm.ClassFile.FieldType.boolean), 2, 46, 12, k_167_0),
  (⟨"WheelPensModel", "isWheel", "()Z"⟩, prog_14_method_19_code, 1, (Option.some Jvm.ClassFile.FieldType.boolean), 1, 26, 12, k_168_0),
  (⟨"WheelPensModel", "isPen", "()Z"⟩, prog_14_method_20_code, 1, (Option.some Jvm.ClassFile.FieldType.boolean), 1, 26, 12, k_169_0),
  (⟨"WheelPensModel", "isInside", "()Z"⟩, prog_14_method_21_code, 1, (Option.some Jvm.ClassFile.FieldType.boolean), 1, 26, 12, k_170_0),
  (⟨"WheelPensModel", "isOn", "()Z"⟩, prog_14_method_22_code, 1, (Option.some Jvm.ClassFile.FieldType.boolean), 1, 26, 12, k_171_0),
  (⟨"WheelPensModel", "isAt", "()Z"⟩, prog_14_method_23_code, 1, (Option.some Jvm.ClassFile.FieldType.boolean), 1, 26, 12, k_172_0),
  (⟨"WheelPensModel", "find", "()I"⟩, prog_14_method_25_code, 2, (Option.some Jvm.ClassFile.FieldType.int), 0, 0, 12, k_173_0),
  (⟨"WheelPensModel", "readNumber", "(II)Z"⟩, prog_14_method_17_code, 3, (Option.some Jvm.ClassFile.FieldType.boolean), 2, 45, 12, k_174_0)]
def ab_tab_7 : List ab_M := [(⟨"WheelPensModel", "isIn", "(III)Z"⟩, prog_14_method_8_code, 3, (Option.some Jvm.ClassFile.FieldType.boolean), 0, 0, 12, k_175_0),
  (⟨"WheelPensModel", "readWheel", "()Z"⟩, prog_14_method_29_code, 7, (Option.some Jvm.ClassFile.FieldType.boolean), 4, 93, 12, k_176_0),
  (⟨"WheelPensModel", "readSpeed", "(I)Z"⟩, prog_14_method_30_code, 7, (Option.some Jvm.ClassFile.FieldType.boolean), 3, 67, 12, k_177_0),
  (⟨"WheelPensModel", "isSign", "(I)Z"⟩, prog_14_method_15_code, 2, (Option.some Jvm.ClassFile.FieldType.boolean), 0, 0, 12, k_178_0),
  (⟨"WheelPensModel", "divisor", "(JJ)J"⟩, prog_14_method_27_code, 10, (Option.some Jvm.ClassFile.FieldType.long), 0, 0, 12, k_179_0),
  (⟨"WheelPensModel", "spins", "(IJJJJ)Z"⟩, prog_14_method_31_code, 16, (Option.some Jvm.ClassFile.FieldType.boolean), 1, 29, 12, k_180_0),
  (⟨"WheelPensModel", "readPen", "()Z"⟩, prog_14_method_32_code, 3, (Option.some Jvm.ClassFile.FieldType.boolean), 4, 87, 12, k_181_0),
  (⟨"WheelPensModel", "fault", "()I"⟩, prog_14_method_35_code, 1, (Option.some Jvm.ClassFile.FieldType.int), 0, 0, 12, k_182_0),
  (⟨"WheelPensModel", "spin", "(II)I"⟩, prog_14_method_36_code, 3, (Option.some Jvm.ClassFile.FieldType.int), 1, 22, 12, k_183_0),
  (⟨"WheelPensModel", "refuse", "()I"⟩, prog_14_method_3_code, 1, (Option.some Jvm.ClassFile.FieldType.int), 0, 0, 12, k_184_0),
  (⟨"WheelPensModel", "closes", "(I)J"⟩, prog_14_method_40_code, 2, (Option.some Jvm.ClassFile.FieldType.long), 2, 58, 12, k_185_0),
  (⟨"WheelPensModel", "isPen", "(I)Z"⟩, prog_14_method_38_code, 2, (Option.some Jvm.ClassFile.FieldType.boolean), 0, 0, 12, k_186_0),
  (⟨"WheelPensModel", "takePen", "(I)V"⟩, prog_14_method_39_code, 10, (Option.none : Option Jvm.ClassFile.FieldType), 1, 29, 12, k_187_0),
  (⟨"WheelPensModel", "addArm", "(JJI)V"⟩, prog_14_method_37_code, 7, (Option.none : Option Jvm.ClassFile.FieldType), 0, 0, 12, k_188_0),
  (⟨"WheelPensModel", "arms", "(I)I"⟩, prog_14_method_41_code, 2, (Option.some Jvm.ClassFile.FieldType.int), 2, 58, 12, k_189_0),
  (⟨"WheelPensModel", "arm", "(III)J"⟩, prog_14_method_42_code, 4, (Option.some Jvm.ClassFile.FieldType.long), 2, 58, 12, k_190_0),
  (⟨"WheelPensModel", "lobes", "(I)J"⟩, prog_14_method_43_code, 5, (Option.some Jvm.ClassFile.FieldType.long), 2, 58, 12, k_191_0),
  (⟨"WheelPensModel", "draw", "(III)I"⟩, prog_14_method_63_code, 4, (Option.some Jvm.ClassFile.FieldType.int), 3, 81, 12, k_192_0),
  (⟨"WheelPensModel", "isSheet", "(I)Z"⟩, prog_14_method_56_code, 1, (Option.some Jvm.ClassFile.FieldType.boolean), 0, 0, 12, k_193_0),
  (⟨"WheelPensModel", "layN", "(I)V"⟩, prog_14_method_48_code, 5, (Option.none : Option Jvm.ClassFile.FieldType), 2, 49, 12, k_194_0),
  (⟨"WheelPensModel", "layPoly", "(I)V"⟩, prog_14_method_44_code, 5, (Option.none : Option Jvm.ClassFile.FieldType), 1, 25, 12, k_195_0),
  (⟨"WheelPensModel", "widen", "(I)V"⟩, prog_14_method_45_code, 3, (Option.none : Option Jvm.ClassFile.FieldType), 0, 0, 12, k_196_0),
  (⟨"WheelPensModel", "divide", "()V"⟩, prog_14_method_47_code, 6, (Option.none : Option Jvm.ClassFile.FieldType), 0, 0, 12, k_197_0),
  (⟨"WheelPensModel", "keepWide", "()V"⟩, prog_14_method_46_code, 2, (Option.none : Option Jvm.ClassFile.FieldType), 0, 0, 12, k_198_0),
  (⟨"WheelPensModel", "drawPen", "(I)V"⟩, prog_14_method_60_code, 4, (Option.none : Option Jvm.ClassFile.FieldType), 2, 58, 12, k_199_0)]
def ab_tab_8 : List ab_M := [(⟨"WheelPensModel", "clear", "()V"⟩, prog_14_method_49_code, 2, (Option.none : Option Jvm.ClassFile.FieldType), 0, 0, 12, k_200_0),
  (⟨"WheelPensModel", "by", "(J)I"⟩, prog_14_method_51_code, 4, (Option.some Jvm.ClassFile.FieldType.int), 0, 0, 12, k_201_0),
  (⟨"WheelPensModel", "write", "([JI)V"⟩, prog_14_method_50_code, 7, (Option.none : Option Jvm.ClassFile.FieldType), 0, 0, 12, k_202_0),
  (⟨"WheelPensModel", "lay", "(I[J)V"⟩, prog_14_method_59_code, 4, (Option.none : Option Jvm.ClassFile.FieldType), 0, 0, 12, k_203_0),
  (⟨"WheelPensModel", "unlike", "([JI)I"⟩, prog_14_method_61_code, 5, (Option.some Jvm.ClassFile.FieldType.int), 2, 49, 12, k_204_0),
  (⟨"WheelPensModel", "firstLike", "([JII)I"⟩, prog_14_method_62_code, 5, (Option.some Jvm.ClassFile.FieldType.int), 1, 25, 12, k_205_0),
  (⟨"WheelPensModel", "isLike", "([JI[JI)Z"⟩, prog_14_method_54_code, 6, (Option.some Jvm.ClassFile.FieldType.boolean), 0, 0, 12, k_206_0),
  (⟨"WheelPensModel", "tell", "(I)I"⟩, prog_14_method_65_code, 4, (Option.some Jvm.ClassFile.FieldType.int), 3, 73, 12, k_207_0),
  (⟨"WheelPensModel", "signed", "(I)I"⟩, prog_14_method_64_code, 1, (Option.some Jvm.ClassFile.FieldType.int), 0, 0, 12, k_208_0),
  (⟨"WheelPensModel", "mix", "(I)I"⟩, prog_14_method_68_code, 5, (Option.some Jvm.ClassFile.FieldType.int), 5, 112, 12, k_209_0),
  (⟨"WheelPensModel", "readPart", "(Z)Z"⟩, prog_14_method_66_code, 4, (Option.some Jvm.ClassFile.FieldType.boolean), 4, 89, 12, k_210_0),
  (⟨"WheelPensModel", "readChange", "(I)Z"⟩, prog_14_method_67_code, 3, (Option.some Jvm.ClassFile.FieldType.boolean), 3, 67, 12, k_211_0),
  (⟨"WheelPensModel", "at", "(II)I"⟩, prog_14_method_58_code, 2, (Option.some Jvm.ClassFile.FieldType.int), 0, 0, 12, k_212_0),
  (⟨"WheelPensModel", "gather", "([JIJIZ)V"⟩, prog_14_method_52_code, 8, (Option.none : Option Jvm.ClassFile.FieldType), 1, 23, 12, k_213_0),
  (⟨"WheelPensModel", "isSmall", "([J)Z"⟩, prog_14_method_69_code, 4, (Option.some Jvm.ClassFile.FieldType.boolean), 0, 0, 12, k_214_0),
  (⟨"WheelPensModel", "wipe", "(I)Z"⟩, prog_14_method_70_code, 2, (Option.some Jvm.ClassFile.FieldType.boolean), 1, 20, 12, k_215_0),
  (⟨"WheelPensModel", "about", "(II)I"⟩, prog_14_method_71_code, 7, (Option.some Jvm.ClassFile.FieldType.int), 4, 94, 12, k_216_0),
  (⟨"WheelPensModel", "has", "(I)Z"⟩, prog_14_method_57_code, 2, (Option.some Jvm.ClassFile.FieldType.boolean), 3, 73, 12, k_217_0),
  (⟨"WheelPensModel", "point", "(III)J"⟩, prog_14_method_72_code, 4, (Option.some Jvm.ClassFile.FieldType.long), 4, 94, 12, k_218_0),
  (⟨"WheelPensModel", "same", "(II)I"⟩, prog_14_method_76_code, 5, (Option.some Jvm.ClassFile.FieldType.int), 4, 94, 12, k_219_0),
  (⟨"WheelPensModel", "gatherProduct", "([JIZ[JIJ)V"⟩, prog_14_method_53_code, 10, (Option.none : Option Jvm.ClassFile.FieldType), 1, 23, 12, k_220_0),
  (⟨"WheelPensModel", "turnAll", "(IIZ[J)V"⟩, prog_14_method_73_code, 6, (Option.none : Option Jvm.ClassFile.FieldType), 2, 50, 12, k_221_0),
  (⟨"WheelPensModel", "isSameSet", "([JI)Z"⟩, prog_14_method_75_code, 4, (Option.some Jvm.ClassFile.FieldType.boolean), 2, 50, 12, k_222_0),
  (⟨"WheelPensModel", "isAmong", "([JI[JI)Z"⟩, prog_14_method_74_code, 6, (Option.some Jvm.ClassFile.FieldType.boolean), 1, 25, 12, k_223_0),
  (⟨"WheelPensModel", "area", "(II)J"⟩, prog_14_method_77_code, 4, (Option.some Jvm.ClassFile.FieldType.long), 4, 94, 12, k_224_0)]
def ab_tab_9 : List ab_M := [(⟨"WheelPensModel", "one", "(II)I"⟩, prog_14_method_79_code, 6, (Option.some Jvm.ClassFile.FieldType.int), 4, 94, 12, k_225_0),
  (⟨"WheelPensModel", "begins", "(I[JI)Z"⟩, prog_14_method_78_code, 5, (Option.some Jvm.ClassFile.FieldType.boolean), 1, 25, 12, k_226_0),
  (⟨"WheelPensModel", "again", "(II)I"⟩, prog_14_method_80_code, 6, (Option.some Jvm.ClassFile.FieldType.int), 4, 94, 12, k_227_0),
  (⟨"WheelPensModel", "product", "(III)I"⟩, prog_14_method_81_code, 5, (Option.some Jvm.ClassFile.FieldType.int), 4, 94, 12, k_228_0),
  (⟨"WheelPensModel", "shared", "(II)I"⟩, prog_14_method_82_code, 5, (Option.some Jvm.ClassFile.FieldType.int), 4, 94, 12, k_229_0),
  (⟨"WheelPensModel", "back", "(I)I"⟩, prog_14_method_85_code, 3, (Option.some Jvm.ClassFile.FieldType.int), 4, 94, 12, k_230_0),
  (⟨"WheelPensModel", "layArms", "(I)V"⟩, prog_14_method_83_code, 4, (Option.none : Option Jvm.ClassFile.FieldType), 2, 50, 12, k_231_0),
  (⟨"WheelPensModel", "isNought", "([JI)Z"⟩, prog_14_method_55_code, 4, (Option.some Jvm.ClassFile.FieldType.boolean), 0, 0, 12, k_232_0),
  (⟨"WheelPensModel", "isPlain", "(I)Z"⟩, prog_14_method_84_code, 3, (Option.some Jvm.ClassFile.FieldType.boolean), 0, 0, 12, k_233_0),
  (⟨"WheelPensModel", "backAt", "(II)J"⟩, prog_14_method_86_code, 3, (Option.some Jvm.ClassFile.FieldType.long), 0, 0, 12, k_234_0),
  (⟨"WheelPensModel", "right", "(I)I"⟩, prog_14_method_88_code, 9, (Option.some Jvm.ClassFile.FieldType.int), 4, 94, 12, k_235_0),
  (⟨"WheelPensModel", "turnArms", "(I)V"⟩, prog_14_method_87_code, 3, (Option.none : Option Jvm.ClassFile.FieldType), 2, 50, 12, k_236_0),
  (⟨"WheelPensModel", "wrong", "()I"⟩, prog_14_method_89_code, 1, (Option.some Jvm.ClassFile.FieldType.int), 0, 0, 12, k_237_0),
  (⟨"WheelPensModel", "rightAt", "(I)J"⟩, prog_14_method_90_code, 2, (Option.some Jvm.ClassFile.FieldType.long), 1, 20, 12, k_238_0),
  (⟨"WheelPensModel", "drawnBy", "(I)I"⟩, prog_14_method_91_code, 4, (Option.some Jvm.ClassFile.FieldType.int), 4, 94, 12, k_239_0),
  (⟨"WheelPensModel", "isTurned", "(I)Z"⟩, prog_14_method_92_code, 4, (Option.some Jvm.ClassFile.FieldType.boolean), 2, 50, 12, k_240_0),
  (⟨"WheelPensModel", "made", "(II)I"⟩, prog_14_method_93_code, 19, (Option.some Jvm.ClassFile.FieldType.int), 4, 94, 12, k_241_0),
  (⟨"WheelPensModel", "madeAt", "(II)I"⟩, prog_14_method_94_code, 3, (Option.some Jvm.ClassFile.FieldType.int), 1, 22, 12, k_242_0),
  (⟨"WheelPensModel", "count", "(I)I"⟩, prog_14_method_95_code, 4, (Option.some Jvm.ClassFile.FieldType.int), 0, 0, 12, k_243_0),
  (⟨"WheelPensLaw", "spin", "(LWheelPens;II[J)I"⟩, method_3_code, 5, (Option.some Jvm.ClassFile.FieldType.int), 7, 126, 13, k_244_0),
  (⟨"WheelPensLaw", "arm", "(LWheelPens;III[J)I"⟩, method_4_code, 6, (Option.some Jvm.ClassFile.FieldType.int), 7, 127, 13, k_245_0),
  (⟨"WheelPensLaw", "point", "(LWheelPens;III[J)I"⟩, method_5_code, 6, (Option.some Jvm.ClassFile.FieldType.int), 7, 128, 13, k_246_0),
  (⟨"WheelPensLaw", "area", "(LWheelPens;II[J)I"⟩, method_6_code, 5, (Option.some Jvm.ClassFile.FieldType.int), 7, 129, 13, k_247_0),
  (⟨"WheelPensLaw", "rightAt", "(LWheelPens;I[J)I"⟩, method_7_code, 4, (Option.some Jvm.ClassFile.FieldType.int), 7, 125, 13, k_248_0),
  (⟨"WheelPensLaw", "madeAt", "(LWheelPens;II[J)I"⟩, method_8_code, 5, (Option.some Jvm.ClassFile.FieldType.int), 7, 126, 13, k_249_0)]
def ab_tab_10 : List ab_M := [(⟨"java/lang/Math", "floorMod", "(JJ)J"⟩, prog_16_method_52_code, 6, (Option.some Jvm.ClassFile.FieldType.long), 0, 0, 14, k_250_0),
  (⟨"java/lang/Math", "floorMod", "(II)I"⟩, prog_16_method_50_code, 3, (Option.some Jvm.ClassFile.FieldType.int), 0, 0, 14, k_251_0),
  (⟨"java/lang/String", "length", "()I"⟩, prog_18_method_54_code, 1, (Option.some Jvm.ClassFile.FieldType.int), 1, 20, 15, k_252_0),
  (⟨"java/lang/String", "coder", "()B"⟩, prog_18_method_152_code, 1, (Option.some Jvm.ClassFile.FieldType.byte), 0, 0, 15, k_253_0),
  (⟨"java/lang/String", "charAt", "(I)C"⟩, prog_18_method_56_code, 2, (Option.some Jvm.ClassFile.FieldType.char), 4, 85, 15, k_254_0),
  (⟨"java/lang/String", "isLatin1", "()Z"⟩, prog_18_method_154_code, 1, (Option.some Jvm.ClassFile.FieldType.boolean), 0, 0, 15, k_255_0),
  (⟨"java/lang/String", "checkIndex", "(II)V"⟩, prog_18_method_155_code, 2, (Option.none : Option Jvm.ClassFile.FieldType), 1, 22, 15, k_256_0),
  (⟨"java/lang/StringLatin1", "charAt", "([BI)C"⟩, prog_19_method_2_code, 2, (Option.some Jvm.ClassFile.FieldType.char), 2, 43, 16, k_257_0),
  (⟨"jdk/internal/util/Preconditions", "checkIndex", "(IILjava/util/function/BiFunction;)I"⟩, prog_23_method_11_code, 3, (Option.some Jvm.ClassFile.FieldType.int), 0, 0, 17, k_258_0),
  (x, code, maxLocals, ret, 13, 486, 13, k_259_0)]
def ab_tab : List ab_M := ab_tab_0 ++ (ab_tab_1 ++ (ab_tab_2 ++ (ab_tab_3 ++ (ab_tab_4 ++ (ab_tab_5 ++ (ab_tab_6 ++ (ab_tab_7 ++ (ab_tab_8 ++ (ab_tab_9 ++ (ab_tab_10))))))))))
abbrev i_Box_init : Nat := 0
abbrev i_Box_take : Nat := 1
abbrev i_Box_findWays : Nat := 2
abbrev i_Box_tryWay : Nat := 3
abbrev i_Box_keepWay : Nat := 4
abbrev i_Kit_init : Nat := 5
abbrev i_Kit_clear : Nat := 6
abbrev i_Kit_entryOf : Nat := 7
abbrev i_Kit_addRing : Nat := 8
abbrev i_Kit_addName : Nat := 9
abbrev i_Kit_addWheel : Nat := 10
abbrev i_Kit_addPen : Nat := 11
abbrev i_KR_init : Nat := 12
abbrev i_KR_read : Nat := 13
abbrev i_KR_readRing : Nat := 14
abbrev i_KR_fail : Nat := 15
abbrev i_KR_passNewName : Nat := 16
abbrev i_KR_isName : Nat := 17
abbrev i_KR_passNumber : Nat := 18
abbrev i_KR_passSign : Nat := 19
abbrev i_KR_readWheel : Nat := 20
abbrev i_KR_passInOrOn : Nat := 21
abbrev i_KR_passBase : Nat := 22
abbrev i_KR_passAt : Nat := 23
abbrev i_KR_passMinus : Nat := 24
abbrev i_KR_readPen : Nat := 25
abbrev i_MR_init : Nat := 26
abbrev i_MR_read : Nat := 27
abbrev i_MR_isAnySign : Nat := 28
abbrev i_MR_readPart : Nat := 29
abbrev i_MR_fail : Nat := 30
abbrev i_MR_readChanges : Nat := 31
abbrev i_Orb_init : Nat := 32
abbrev i_Orb_begin : Nat := 33
abbrev i_Orb_placeSheet : Nat := 34
abbrev i_Orb_place : Nat := 35
abbrev i_Orb_turnToLeast : Nat := 36
abbrev i_Orb_turnedIsLess : Nat := 37
abbrev i_Orb_kindOfLeast : Nat := 38
abbrev i_Orb_turningsOnto : Nat := 39
abbrev i_Orb_isAmongFirst : Nat := 40
abbrev i_Orb_isTurned : Nat := 41
abbrev i_Orb_placeMirrored : Nat := 42
abbrev i_Orb_firstMatch : Nat := 43
abbrev i_Orb_matches : Nat := 44
abbrev i_Orb_selves : Nat := 45
abbrev i_PA_init : Nat := 46
abbrev i_PA_gather : Nat := 47
abbrev i_PA_join : Nat := 48
abbrev i_PA_dropEmpty : Nat := 49
abbrev i_PA_findWindings : Nat := 50
abbrev i_PA_sortByWinding : Nat := 51
abbrev i_PA_lobeNumber : Nat := 52
abbrev i_Sheet_init : Nat := 53
abbrev i_Sheet_fill : Nat := 54
abbrev i_Sheet_unlike : Nat := 55
abbrev i_Sheet_firstLike : Nat := 56
abbrev i_Sheet_isLike : Nat := 57
abbrev i_Sheet_number : Nat := 58
abbrev i_Sheet_fillIfWithin : Nat := 59
abbrev i_Sheet_mostOften : Nat := 60
abbrev i_Sheet_firstAgain : Nat := 61
abbrev i_Sheet_period : Nat := 62
abbrev i_Sheet_comesRound : Nat := 63
abbrev i_Sums_init : Nat := 64
abbrev i_Sums_choose : Nat := 65
abbrev i_Sums_findLeast : Nat := 66
abbrev i_Sums_moebius : Nat := 67
abbrev i_Sums_clear : Nat := 68
abbrev i_Sums_add : Nat := 69
abbrev i_Sums_reduce : Nat := 70
abbrev i_Sums_store : Nat := 71
abbrev i_Sums_addMirroredProduct : Nat := 72
abbrev i_Sums_turnOnce : Nat := 73
abbrev i_Sums_addProduct : Nat := 74
abbrev i_Sums_addTurned : Nat := 75
abbrev i_Tape_init : Nat := 76
abbrev i_Tape_append : Nat := 77
abbrev i_Tape_open : Nat := 78
abbrev i_Tape_advance : Nat := 79
abbrev i_Tape_byteAt : Nat := 80
abbrev i_Tape_isBlank : Nat := 81
abbrev i_Tape_isLetter : Nat := 82
abbrev i_Tape_isDigit : Nat := 83
abbrev i_Tape_readRun : Nat := 84
abbrev i_Tape_readSign : Nat := 85
abbrev i_Tape_isWord : Nat := 86
abbrev i_Tape_isSign : Nat := 87
abbrev i_Tape_isCut : Nat := 88
abbrev i_Tape_signedByte : Nat := 89
abbrev i_Told_init : Nat := 90
abbrev i_Told_readBack : Nat := 91
abbrev i_Told_keep : Nat := 92
abbrev i_Told_isThere : Nat := 93
abbrev i_Told_isWhole : Nat := 94
abbrev i_Told_spanOf : Nat := 95
abbrev i_Told_isPlain : Nat := 96
abbrev i_Told_putRight : Nat := 97
abbrev i_Told_findMostAlike : Nat := 98
abbrev i_Told_setInPlace : Nat := 99
abbrev i_Told_hasTwoPlain : Nat := 100
abbrev i_Told_nextThere : Nat := 101
abbrev i_WL_init : Nat := 102
abbrev i_WL_stand : Nat := 103
abbrev i_WL_turnAt : Nat := 104
abbrev i_WL_findSpin : Nat := 105
abbrev i_WP_init : Nat := 106
abbrev i_WP_feed : Nat := 107
abbrev i_WP_end : Nat := 108
abbrev i_WP_kit : Nat := 109
abbrev i_WP_commonDivisor : Nat := 110
abbrev i_WP_fault : Nat := 111
abbrev i_WP_closes : Nat := 112
abbrev i_WP_isPen : Nat := 113
abbrev i_WP_arms : Nat := 114
abbrev i_WP_lobes : Nat := 115
abbrev i_WP_draw : Nat := 116
abbrev i_WP_isSheet : Nat := 117
abbrev i_WP_drawInto : Nat := 118
abbrev i_WP_wrapLong : Nat := 119
abbrev i_WP_wrap : Nat := 120
abbrev i_WP_tell : Nat := 121
abbrev i_WP_mix : Nat := 122
abbrev i_WP_mixInto : Nat := 123
abbrev i_WP_sheetThatIs : Nat := 124
abbrev i_WP_addPart : Nat := 125
abbrev i_WP_wipe : Nat := 126
abbrev i_WP_about : Nat := 127
abbrev i_WP_same : Nat := 128
abbrev i_WP_distances : Nat := 129
abbrev i_WP_likeRows : Nat := 130
abbrev i_WP_one : Nat := 131
abbrev i_WP_again : Nat := 132
abbrev i_WP_product : Nat := 133
abbrev i_WP_shared : Nat := 134
abbrev i_WP_back : Nat := 135
abbrev i_WP_backAt : Nat := 136
abbrev i_WP_right : Nat := 137
abbrev i_WP_wrong : Nat := 138
abbrev i_WP_drawnBy : Nat := 139
abbrev i_WP_made : Nat := 140
abbrev i_WP_count : Nat := 141
abbrev i_WP_sheetsThatAre : Nat := 142
abbrev i_WP_spin : Nat := 143
abbrev i_WP_arm : Nat := 144
abbrev i_WP_point : Nat := 145
abbrev i_WP_area : Nat := 146
abbrev i_WP_rightAt : Nat := 147
abbrev i_WP_madeAt : Nat := 148
abbrev i_Mod_init : Nat := 149
abbrev i_Mod_thrown : Nat := 150
abbrev i_Mod_feed : Nat := 151
abbrev i_Mod_come : Nat := 152
abbrev i_Mod_end : Nat := 153
abbrev i_Mod_kit : Nat := 154
abbrev i_Mod_take : Nat := 155
abbrev i_Mod_go : Nat := 156
abbrev i_Mod_isLetter : Nat := 157
abbrev i_Mod_isDigit : Nat := 158
abbrev i_Mod_byteAt : Nat := 159
abbrev i_Mod_readLine : Nat := 160
abbrev i_Mod_isRing : Nat := 161
abbrev i_Mod_spelt : Nat := 162
abbrev i_Mod_isKey : Nat := 163
abbrev i_Mod_readRing : Nat := 164
abbrev i_Mod_bad : Nat := 165
abbrev i_Mod_readNew : Nat := 166
abbrev i_Mod_isName : Nat := 167
abbrev i_Mod_isWheel : Nat := 168
abbrev i_Mod_isPen : Nat := 169
abbrev i_Mod_isInside : Nat := 170
abbrev i_Mod_isOn : Nat := 171
abbrev i_Mod_isAt : Nat := 172
abbrev i_Mod_find : Nat := 173
abbrev i_Mod_readNumber : Nat := 174
abbrev i_Mod_isIn : Nat := 175
abbrev i_Mod_readWheel : Nat := 176
abbrev i_Mod_readSpeed : Nat := 177
abbrev i_Mod_isSign : Nat := 178
abbrev i_Mod_divisor : Nat := 179
abbrev i_Mod_spins : Nat := 180
abbrev i_Mod_readPen : Nat := 181
abbrev i_Mod_fault : Nat := 182
abbrev i_Mod_spin : Nat := 183
abbrev i_Mod_refuse : Nat := 184
abbrev i_Mod_closes : Nat := 185
abbrev i_Mod_isPen_I : Nat := 186
abbrev i_Mod_takePen : Nat := 187
abbrev i_Mod_addArm : Nat := 188
abbrev i_Mod_arms : Nat := 189
abbrev i_Mod_arm : Nat := 190
abbrev i_Mod_lobes : Nat := 191
abbrev i_Mod_draw : Nat := 192
abbrev i_Mod_isSheet : Nat := 193
abbrev i_Mod_layN : Nat := 194
abbrev i_Mod_layPoly : Nat := 195
abbrev i_Mod_widen : Nat := 196
abbrev i_Mod_divide : Nat := 197
abbrev i_Mod_keepWide : Nat := 198
abbrev i_Mod_drawPen : Nat := 199
abbrev i_Mod_clear : Nat := 200
abbrev i_Mod_by : Nat := 201
abbrev i_Mod_write : Nat := 202
abbrev i_Mod_lay : Nat := 203
abbrev i_Mod_unlike : Nat := 204
abbrev i_Mod_firstLike : Nat := 205
abbrev i_Mod_isLike : Nat := 206
abbrev i_Mod_tell : Nat := 207
abbrev i_Mod_signed : Nat := 208
abbrev i_Mod_mix : Nat := 209
abbrev i_Mod_readPart : Nat := 210
abbrev i_Mod_readChange : Nat := 211
abbrev i_Mod_at : Nat := 212
abbrev i_Mod_gather : Nat := 213
abbrev i_Mod_isSmall : Nat := 214
abbrev i_Mod_wipe : Nat := 215
abbrev i_Mod_about : Nat := 216
abbrev i_Mod_has : Nat := 217
abbrev i_Mod_point : Nat := 218
abbrev i_Mod_same : Nat := 219
abbrev i_Mod_gatherProduct : Nat := 220
abbrev i_Mod_turnAll : Nat := 221
abbrev i_Mod_isSameSet : Nat := 222
abbrev i_Mod_isAmong : Nat := 223
abbrev i_Mod_area : Nat := 224
abbrev i_Mod_one : Nat := 225
abbrev i_Mod_begins : Nat := 226
abbrev i_Mod_again : Nat := 227
abbrev i_Mod_product : Nat := 228
abbrev i_Mod_shared : Nat := 229
abbrev i_Mod_back : Nat := 230
abbrev i_Mod_layArms : Nat := 231
abbrev i_Mod_isNought : Nat := 232
abbrev i_Mod_isPlain : Nat := 233
abbrev i_Mod_backAt : Nat := 234
abbrev i_Mod_right : Nat := 235
abbrev i_Mod_turnArms : Nat := 236
abbrev i_Mod_wrong : Nat := 237
abbrev i_Mod_rightAt : Nat := 238
abbrev i_Mod_drawnBy : Nat := 239
abbrev i_Mod_isTurned : Nat := 240
abbrev i_Mod_made : Nat := 241
abbrev i_Mod_madeAt : Nat := 242
abbrev i_Mod_count : Nat := 243
abbrev i_Law_spin : Nat := 244
abbrev i_Law_arm : Nat := 245
abbrev i_Law_point : Nat := 246
abbrev i_Law_area : Nat := 247
abbrev i_Law_rightAt : Nat := 248
abbrev i_Law_madeAt : Nat := 249
abbrev i_Math_floorMod : Nat := 250
abbrev i_Math_floorMod_II : Nat := 251
abbrev i_Str_length : Nat := 252
abbrev i_Str_coder : Nat := 253
abbrev i_Str_charAt : Nat := 254
abbrev i_Str_isLatin1 : Nat := 255
abbrev i_Str_checkIndex : Nat := 256
abbrev i_Lat_charAt : Nat := 257
abbrev i_Pre_checkIndex : Nat := 258
abbrev i_Law_law : Nat := 259
