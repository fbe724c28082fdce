/-! what the classes' constant pools name, with the places of the words in tables_1 (of selects: in lw_tbl, where 64 private ones come first) -/
def m_np : Nat := 64
def m_cpf : List (Nat × Nat × Nat × Nat × Nat) := [(0, 11, 0, 0, 188), (0, 18, 0, 1, 189), (0, 25, 0, 2, 190), (0, 29, 0, 3, 191), (0, 32, 0, 4, 192), (0, 41, 0, 5, 193), (0, 50, 0, 6, 194), (0, 54, 0, 7, 195), (0, 58, 0, 8, 196), (0, 82, 3, 1, 174), (0, 86, 3, 3, 178), (0, 93, 3, 2, 176), (0, 100, 3, 0, 171), (0, 107, 4, 1, 45), (0, 117, 4, 5, 51), (0, 121, 4, 2, 47), (0, 127, 5, 8, 94), (0, 130, 5, 0, 75), (0, 154, 5, 10, 99), (0, 166, 5, 11, 102), (0, 169, 5, 12, 105), (0, 176, 5, 13, 107), (0, 219, 1, 2, 153), (0, 226, 1, 1, 151), (0, 233, 5, 9, 96), (0, 234, 5, 5, 87), (0, 237, 5, 2, 80), (0, 240, 5, 6, 89), (0, 243, 5, 7, 91), (0, 246, 5, 4, 85), (1, 14, 1, 1, 150), (1, 18, 1, 2, 152), (1, 22, 1, 0, 149), (1, 41, 5, 10, 98), (1, 59, 5, 12, 104), (1, 66, 5, 11, 101), (2, 13, 2, 0, 38), (3, 14, 3, 0, 170), (3, 20, 3, 1, 173), (3, 24, 3, 2, 175), (3, 28, 3, 3, 177), (4, 14, 4, 0, 43), (4, 20, 4, 1, 44), (4, 24, 4, 2, 46), (4, 27, 4, 3, 48), (4, 30, 4, 4, 49), (4, 33, 4, 5, 50), (4, 58, 5, 1, 77), (4, 65, 5, 2, 79), (4, 68, 5, 3, 82), (4, 71, 5, 4, 84), (4, 82, 5, 0, 74), (4, 92, 5, 8, 93), (5, 9, 5, 0, 73), (5, 15, 5, 1, 76), (5, 19, 5, 2, 78), (5, 22, 5, 3, 81), (5, 25, 5, 4, 83), (5, 28, 5, 5, 86), (5, 31, 5, 6, 88), (5, 34, 5, 7, 90), (5, 37, 5, 8, 92), (5, 40, 5, 9, 95), (5, 48, 5, 10, 97), (5, 52, 5, 11, 100), (5, 55, 5, 12, 103), (5, 58, 5, 13, 106), (5, 61, 5, 14, 108), (5, 116, 3, 0, 172), (6, 7, 6, 2, 664), (6, 13, 6, 3, 665), (6, 16, 6, 4, 666), (6, 19, 6, 5, 667), (6, 22, 6, 6, 668), (6, 25, 6, 8, 670), (6, 28, 6, 18, 680), (6, 32, 6, 19, 681), (6, 36, 6, 20, 682), (6, 39, 6, 21, 683), (6, 42, 6, 0, 662), (6, 46, 6, 1, 663), (6, 69, 6, 9, 671), (6, 75, 6, 11, 673), (6, 79, 6, 12, 674), (6, 85, 6, 14, 676), (6, 88, 6, 13, 675), (6, 97, 6, 15, 677), (6, 100, 6, 16, 678), (6, 106, 6, 17, 679), (6, 171, 6, 10, 672), (6, 175, 6, 7, 669), (6, 262, 6, 22, 684), (17, 9, 17, 0, 1046), (17, 15, 17, 1, 1047)]
def m_cpg : List (Nat × Nat × Nat × Nat × Nat) := [(0, 260, 16, 0, 609), (1, 26, 16, 2, 619), (1, 38, 16, 3, 636), (1, 50, 16, 0, 626), (5, 83, 16, 1, 439), (17, 38, 0, 1, 325), (17, 1053, 20, 0, 341)]
def m_cpc : List (Nat × Nat × Nat × Nat) := [(0, 70, 1, 227), (0, 110, 3, 282), (0, 120, 5, 403), (0, 133, 2, 418), (0, 175, 0, 485), (0, 249, 4, 232), (5, 72, 0, 467), (6, 49, 4, 751), (6, 62, 1, 746), (6, 72, 3, 769), (6, 78, 0, 787), (6, 174, 5, 847), (6, 200, 2, 856)]
def m_cpl : List (Nat × Nat × Nat × Nat) := [(7, 32, 21, 1045), (6, 50, 0, 741), (6, 60, 1, 745), (6, 67, 2, 768), (6, 73, 3, 770), (6, 121, 5, 814), (6, 123, 6, 815), (6, 125, 7, 816), (6, 131, 9, 842), (6, 133, 10, 843), (6, 135, 11, 844), (6, 137, 12, 845), (6, 139, 13, 846), (6, 141, 4, 802), (6, 166, 8, 833), (6, 201, 14, 857), (6, 247, 15, 980), (6, 249, 16, 981), (6, 251, 17, 986), (6, 253, 18, 987), (6, 255, 19, 988), (6, 257, 20, 1005)]
def m_cps : List (Nat × Nat × Nat × Nat) := [(4, 48, 0, 308), (4, 86, 4, 384), (4, 102, 1, 373), (4, 104, 2, 374), (4, 106, 3, 375), (4, 108, 5, 389), (4, 110, 6, 390), (4, 112, 7, 391), (4, 114, 8, 392), (4, 116, 9, 393)]
def m_cpm : List (Nat × Nat × Nat × Nat × Nat × Nat × Bool × Nat) := [(0, 62, 1, 220, 222, 0, false, 1), (0, 66, 2, 224, 225, 0, false, 1), (0, 71, 3, 228, 230, 1, false, 1), (0, 75, 51, 233, 234, 299, false, 7), (0, 79, 4, 241, 243, 2, false, 1), (0, 89, 52, 249, 250, 315, false, 7), (0, 96, 53, 261, 262, 327, false, 7), (0, 103, 49, 265, 266, 331, false, 3), (0, 111, 56, 283, 284, 349, false, 2), (0, 114, 57, 292, 293, 358, false, 2), (0, 124, 70, 404, 405, 470, false, 5), (0, 134, 71, 419, 420, 485, false, 5), (0, 137, 68, 450, 395, 460, false, 5), (0, 141, 76, 455, 456, 521, false, 5), (0, 145, 77, 459, 460, 525, false, 5), (0, 148, 78, 468, 464, 529, false, 5), (0, 151, 75, 469, 442, 507, false, 5), (0, 157, 48, 474, 254, 319, false, 3), (0, 160, 69, 475, 400, 465, false, 5), (0, 163, 50, 480, 270, 335, false, 3), (0, 172, 79, 481, 482, 547, false, 5), (0, 179, 167, 490, 492, 14, false, 1), (0, 183, 80, 504, 505, 570, false, 5), (0, 187, 18, 517, 519, 15, false, 1), (0, 191, 21, 528, 530, 16, false, 1), (0, 195, 25, 546, 548, 18, false, 1), (0, 198, 82, 558, 559, 624, false, 5), (0, 202, 83, 562, 563, 628, false, 5), (0, 205, 84, 570, 571, 636, false, 5), (0, 209, 30, 578, 580, 20, false, 1), (0, 212, 33, 590, 592, 21, false, 1), (0, 216, 37, 606, 607, 0, false, 1), (0, 220, 43, 615, 617, 22, true, 6), (0, 223, 46, 639, 634, 25, true, 6), (0, 229, 41, 648, 650, 26, false, 1), (0, 250, 54, 494, 495, 560, false, 7), (0, 253, 55, 498, 499, 564, false, 7), (0, 256, 19, 521, 522, 0, false, 1), (0, 264, 81, 532, 509, 574, false, 5), (0, 267, 47, 533, 238, 303, false, 3), (0, 270, 22, 534, 536, 17, false, 1), (0, 274, 23, 538, 539, 0, false, 1), (0, 277, 160, 541, 36, 0, false, 4), (0, 282, 26, 550, 552, 19, false, 1), (1, 30, 44, 621, 623, 23, false, 6), (1, 34, 45, 627, 629, 24, false, 6), (1, 46, 50, 625, 270, 335, false, 3), (1, 55, 48, 631, 254, 319, false, 3), (1, 62, 46, 632, 634, 25, false, 6), (1, 69, 43, 638, 617, 22, false, 6), (2, 19, 50, 269, 270, 335, false, 3), (2, 23, 48, 273, 254, 319, false, 3), (3, 31, 47, 237, 238, 303, false, 3), (3, 34, 48, 253, 254, 319, false, 3), (3, 38, 50, 502, 270, 335, false, 3), (3, 42, 2, 503, 225, 0, true, 1), (4, 36, 48, 287, 254, 319, false, 3), (4, 40, 67, 296, 297, 362, false, 5), (4, 45, 58, 300, 302, 3, false, 2), (4, 50, 60, 309, 311, 4, false, 2), (4, 54, 63, 369, 371, 7, false, 2), (4, 61, 64, 376, 378, 8, false, 2), (4, 74, 62, 365, 367, 6, false, 2), (4, 78, 65, 380, 382, 9, false, 2), (4, 88, 61, 313, 315, 5, false, 2), (4, 95, 66, 385, 387, 10, false, 2), (4, 98, 68, 394, 395, 460, false, 5), (4, 118, 50, 304, 270, 335, false, 3), (4, 121, 162, 317, 318, 383, false, 9), (4, 125, 164, 327, 328, 393, false, 9), (4, 129, 59, 305, 306, 0, false, 2), (5, 64, 49, 408, 266, 331, false, 3), (5, 68, 78, 463, 464, 529, false, 5), (5, 73, 50, 430, 270, 335, false, 3), (5, 76, 48, 398, 254, 319, false, 3), (5, 80, 69, 399, 400, 465, false, 5), (5, 87, 74, 435, 437, 13, false, 5), (5, 91, 73, 431, 433, 12, false, 5), (5, 93, 161, 423, 424, 0, false, 4), (5, 98, 72, 426, 428, 11, false, 5), (5, 102, 75, 441, 442, 507, false, 5), (5, 105, 68, 445, 395, 460, false, 5), (5, 109, 81, 508, 509, 574, false, 5), (5, 113, 79, 512, 482, 547, false, 5), (7, 13, 0, 216, 217, 282, false, 1), (7, 17, 85, 734, 735, 800, false, 8), (7, 18, 5, 245, 246, 311, false, 1), (7, 21, 89, 752, 753, 818, false, 8), (7, 22, 6, 257, 258, 323, false, 1), (7, 26, 90, 756, 757, 822, false, 8), (7, 27, 7, 274, 275, 340, false, 1), (7, 31, 91, 760, 761, 826, false, 8), (7, 34, 8, 278, 279, 344, false, 1), (7, 38, 92, 764, 765, 830, false, 8), (7, 39, 9, 288, 289, 354, false, 1), (7, 43, 93, 771, 772, 837, false, 8), (7, 44, 10, 410, 411, 476, false, 1), (7, 47, 110, 848, 849, 914, false, 8), (7, 48, 11, 414, 415, 480, false, 1), (7, 52, 111, 852, 853, 918, false, 8), (7, 53, 12, 446, 447, 512, false, 1), (7, 56, 121, 893, 894, 959, false, 8), (7, 57, 13, 451, 452, 517, false, 1), (7, 60, 122, 897, 898, 963, false, 8), (7, 61, 14, 470, 471, 536, false, 1), (7, 64, 125, 909, 910, 975, false, 8), (7, 65, 15, 476, 477, 542, false, 1), (7, 68, 126, 913, 914, 979, false, 8), (7, 69, 16, 486, 487, 552, false, 1), (7, 72, 127, 917, 918, 983, false, 8), (7, 73, 17, 513, 514, 579, false, 1), (7, 76, 132, 937, 938, 1003, false, 8), (7, 77, 20, 524, 525, 590, false, 1), (7, 80, 134, 945, 946, 1011, false, 8), (7, 81, 24, 542, 543, 608, false, 1), (7, 84, 137, 956, 957, 1022, false, 8), (7, 85, 27, 554, 555, 620, false, 1), (7, 88, 139, 964, 965, 1030, false, 8), (7, 89, 28, 566, 567, 632, false, 1), (7, 92, 141, 972, 973, 1038, false, 8), (7, 93, 29, 574, 575, 640, false, 1), (7, 96, 142, 976, 977, 1042, false, 8), (7, 97, 31, 582, 583, 648, false, 1), (7, 101, 143, 982, 983, 1048, false, 8), (7, 102, 32, 586, 587, 652, false, 1), (7, 105, 144, 989, 990, 1055, false, 8), (7, 106, 34, 594, 595, 660, false, 1), (7, 109, 145, 993, 994, 1059, false, 8), (7, 110, 35, 598, 599, 664, false, 1), (7, 113, 146, 997, 998, 1063, false, 8), (7, 114, 36, 602, 603, 668, false, 1), (7, 117, 147, 1001, 1002, 1067, false, 8), (7, 118, 38, 611, 612, 677, false, 1), (7, 121, 149, 1009, 1010, 1075, false, 8), (7, 122, 39, 640, 641, 706, false, 1), (7, 125, 155, 1033, 1034, 1099, false, 8), (7, 126, 40, 644, 645, 710, false, 1), (7, 129, 156, 1037, 1038, 1103, false, 8), (7, 130, 42, 652, 653, 718, false, 1), (7, 133, 157, 1041, 1042, 1107, false, 8), (6, 52, 87, 742, 743, 0, false, 8), (6, 56, 86, 738, 739, 0, false, 8), (6, 63, 88, 747, 749, 27, false, 8), (6, 82, 96, 783, 785, 30, false, 8), (6, 91, 97, 788, 789, 0, false, 8), (6, 94, 98, 791, 792, 0, false, 8), (6, 103, 95, 779, 781, 29, false, 8), (6, 109, 102, 807, 809, 34, false, 8), (6, 113, 106, 825, 827, 37, false, 8), (6, 117, 101, 803, 805, 33, false, 8), (6, 127, 100, 798, 800, 32, false, 8), (6, 143, 103, 811, 812, 0, false, 8), (6, 147, 104, 817, 819, 35, false, 8), (6, 150, 105, 821, 823, 36, false, 8), (6, 154, 107, 829, 831, 38, false, 8), (6, 157, 109, 838, 840, 40, false, 8), (6, 160, 94, 775, 777, 28, false, 8), (6, 163, 99, 794, 796, 31, false, 8), (6, 168, 108, 834, 836, 39, false, 8), (6, 179, 123, 901, 903, 49, false, 8), (6, 182, 114, 866, 868, 43, false, 8), (6, 185, 116, 874, 876, 45, false, 8), (6, 188, 117, 878, 879, 0, false, 8), (6, 191, 115, 870, 872, 44, false, 8), (6, 194, 120, 889, 891, 48, false, 8), (6, 197, 113, 862, 864, 42, false, 8), (6, 203, 112, 858, 860, 41, false, 8), (6, 206, 118, 881, 883, 46, false, 8), (6, 209, 119, 885, 887, 47, false, 8), (6, 212, 124, 905, 907, 50, false, 8), (6, 215, 131, 933, 935, 54, false, 8), (6, 219, 128, 921, 923, 51, false, 8), (6, 222, 129, 925, 927, 52, false, 8), (6, 225, 130, 929, 931, 53, false, 8), (6, 229, 133, 941, 943, 55, false, 8), (6, 233, 135, 949, 951, 56, false, 8), (6, 237, 136, 953, 954, 0, false, 8), (6, 241, 138, 960, 962, 57, false, 8), (6, 244, 140, 968, 970, 58, false, 8), (6, 259, 148, 1006, 1007, 0, false, 8), (6, 265, 152, 1021, 1023, 61, false, 8), (6, 268, 153, 1025, 1027, 62, false, 8), (6, 271, 151, 1017, 1019, 60, false, 8), (6, 274, 154, 1029, 1031, 63, false, 8), (6, 277, 150, 1013, 1015, 59, false, 8), (17, 335, 163, 321, 322, 387, false, 9), (17, 492, 165, 331, 332, 397, false, 9), (17, 495, 158, 335, 336, 0, false, 10), (17, 1059, 159, 343, 344, 0, false, 11), (8, 9, 166, 338, 339, 0, false, 9)]
def m_on (oc : Nat) : String := m_nth ["AsManyAsCame", "AsManyAsCame$Asked", "AsManyAsCame$Numbers", "AsManyAsCame$Row", "AsManyAsCame$Tape", "AsManyAsCame$Town", "AsManyAsCameModel", "AsManyAsCameLaw", "java/lang/StringLatin1", "jdk/internal/util/Preconditions", "java/lang/Math", "", "", "", "", "", "", "java/lang/String"] oc ""
def m_fn (c j : Nat) : String × String × String := m_nth (m_nth [[("AsManyAsCame", "rows", "[LAsManyAsCame$Row;"), ("AsManyAsCame", "tape", "LAsManyAsCame$Tape;"), ("AsManyAsCame", "town", "LAsManyAsCame$Town;"), ("AsManyAsCame", "draft", "LAsManyAsCame$Town;"), ("AsManyAsCame", "images", "[LAsManyAsCame$Town;"), ("AsManyAsCame", "asked", "LAsManyAsCame$Asked;"), ("AsManyAsCame", "ways", "LAsManyAsCame$Numbers;"), ("AsManyAsCame", "latestFault", "I"), ("AsManyAsCame", "latestFinding", "I")],
  [("AsManyAsCame$Asked", "town", "LAsManyAsCame$Town;"), ("AsManyAsCame$Asked", "bodies", "LAsManyAsCame$Numbers;"), ("AsManyAsCame$Asked", "length", "I")],
  [("AsManyAsCame$Numbers", "cells", "[I")],
  [("AsManyAsCame$Row", "items", "LAsManyAsCame$Numbers;"), ("AsManyAsCame$Row", "there", "Z"), ("AsManyAsCame$Row", "lane", "I"), ("AsManyAsCame$Row", "size", "I")],
  [("AsManyAsCame$Tape", "bytes", "LAsManyAsCame$Numbers;"), ("AsManyAsCame$Tape", "length", "I"), ("AsManyAsCame$Tape", "from", "I"), ("AsManyAsCame$Tape", "end", "I"), ("AsManyAsCame$Tape", "token", "I"), ("AsManyAsCame$Tape", "fault", "I")],
  [("AsManyAsCame$Town", "stands", "Z"), ("AsManyAsCame$Town", "law", "I"), ("AsManyAsCame$Town", "bread", "I"), ("AsManyAsCame$Town", "pay", "I"), ("AsManyAsCame$Town", "came", "I"), ("AsManyAsCame$Town", "days", "I"), ("AsManyAsCame$Town", "spent", "I"), ("AsManyAsCame$Town", "hungry", "I"), ("AsManyAsCame$Town", "numbers", "I"), ("AsManyAsCame$Town", "size", "I"), ("AsManyAsCame$Town", "kinds", "LAsManyAsCame$Numbers;"), ("AsManyAsCame$Town", "ranks", "LAsManyAsCame$Numbers;"), ("AsManyAsCame$Town", "hastes", "LAsManyAsCame$Numbers;"), ("AsManyAsCame$Town", "leftOn", "LAsManyAsCame$Numbers;"), ("AsManyAsCame$Town", "list", "LAsManyAsCame$Numbers;")],
  [("AsManyAsCameModel", "thrown", "I"), ("AsManyAsCameModel", "status", "I"), ("AsManyAsCameModel", "lane", "[I"), ("AsManyAsCameModel", "many", "[I"), ("AsManyAsCameModel", "item", "[I"), ("AsManyAsCameModel", "town", "[I"), ("AsManyAsCameModel", "fresh", "[I"), ("AsManyAsCameModel", "isThere", "Z"), ("AsManyAsCameModel", "tape", "[I"), ("AsManyAsCameModel", "taped", "I"), ("AsManyAsCameModel", "latest", "I"), ("AsManyAsCameModel", "length", "I"), ("AsManyAsCameModel", "cursor", "I"), ("AsManyAsCameModel", "token", "I"), ("AsManyAsCameModel", "start", "I"), ("AsManyAsCameModel", "till", "I"), ("AsManyAsCameModel", "fault", "I"), ("AsManyAsCameModel", "faultAt", "I"), ("AsManyAsCameModel", "ways", "[J"), ("AsManyAsCameModel", "isKept", "[Z"), ("AsManyAsCameModel", "kept", "[I"), ("AsManyAsCameModel", "trace", "[I"), ("AsManyAsCameModel", "traced", "I")],
  [],
  [],
  [],
  [],
  [],
  [],
  [],
  [],
  [],
  [],
  [("java/lang/String", "value", "[B"), ("java/lang/String", "coder", "B")]] c []) j ("", "", "")
def m_T0 : u_T := fun k => match k with
  | 0 => ("AsManyAsCame", "rows", "[LAsManyAsCame$Row;", true)
  | 1 => ("AsManyAsCame", "tape", "LAsManyAsCame$Tape;", true)
  | 2 => ("AsManyAsCame", "town", "LAsManyAsCame$Town;", true)
  | 3 => ("AsManyAsCame", "draft", "LAsManyAsCame$Town;", true)
  | 4 => ("AsManyAsCame", "images", "[LAsManyAsCame$Town;", true)
  | 5 => ("AsManyAsCame", "asked", "LAsManyAsCame$Asked;", true)
  | 6 => ("AsManyAsCame", "ways", "LAsManyAsCame$Numbers;", true)
  | 7 => ("AsManyAsCame", "latestFault", "I", false)
  | _ => ("AsManyAsCame", "latestFinding", "I", false)
def m_T1 : u_T := fun k => match k with
  | 0 => ("AsManyAsCame$Asked", "town", "LAsManyAsCame$Town;", true)
  | 1 => ("AsManyAsCame$Asked", "bodies", "LAsManyAsCame$Numbers;", true)
  | _ => ("AsManyAsCame$Asked", "length", "I", false)
def m_T2 : u_T := fun k => match k with
  | _ => ("AsManyAsCame$Numbers", "cells", "[I", true)
def m_T3 : u_T := fun k => match k with
  | 0 => ("AsManyAsCame$Row", "items", "LAsManyAsCame$Numbers;", true)
  | 1 => ("AsManyAsCame$Row", "there", "Z", false)
  | 2 => ("AsManyAsCame$Row", "lane", "I", false)
  | _ => ("AsManyAsCame$Row", "size", "I", false)
def m_T4 : u_T := fun k => match k with
  | 0 => ("AsManyAsCame$Tape", "bytes", "LAsManyAsCame$Numbers;", true)
  | 1 => ("AsManyAsCame$Tape", "length", "I", false)
  | 2 => ("AsManyAsCame$Tape", "from", "I", false)
  | 3 => ("AsManyAsCame$Tape", "end", "I", false)
  | 4 => ("AsManyAsCame$Tape", "token", "I", false)
  | _ => ("AsManyAsCame$Tape", "fault", "I", false)
def m_T5 : u_T := fun k => match k with
  | 0 => ("AsManyAsCame$Town", "stands", "Z", false)
  | 1 => ("AsManyAsCame$Town", "law", "I", false)
  | 2 => ("AsManyAsCame$Town", "bread", "I", false)
  | 3 => ("AsManyAsCame$Town", "pay", "I", false)
  | 4 => ("AsManyAsCame$Town", "came", "I", false)
  | 5 => ("AsManyAsCame$Town", "days", "I", false)
  | 6 => ("AsManyAsCame$Town", "spent", "I", false)
  | 7 => ("AsManyAsCame$Town", "hungry", "I", false)
  | 8 => ("AsManyAsCame$Town", "numbers", "I", false)
  | 9 => ("AsManyAsCame$Town", "size", "I", false)
  | 10 => ("AsManyAsCame$Town", "kinds", "LAsManyAsCame$Numbers;", true)
  | 11 => ("AsManyAsCame$Town", "ranks", "LAsManyAsCame$Numbers;", true)
  | 12 => ("AsManyAsCame$Town", "hastes", "LAsManyAsCame$Numbers;", true)
  | 13 => ("AsManyAsCame$Town", "leftOn", "LAsManyAsCame$Numbers;", true)
  | _ => ("AsManyAsCame$Town", "list", "LAsManyAsCame$Numbers;", true)
def m_T6 : u_T := fun k => match k with
  | 0 => ("AsManyAsCameModel", "thrown", "I", false)
  | 1 => ("AsManyAsCameModel", "status", "I", false)
  | 2 => ("AsManyAsCameModel", "lane", "[I", true)
  | 3 => ("AsManyAsCameModel", "many", "[I", true)
  | 4 => ("AsManyAsCameModel", "item", "[I", true)
  | 5 => ("AsManyAsCameModel", "town", "[I", true)
  | 6 => ("AsManyAsCameModel", "fresh", "[I", true)
  | 7 => ("AsManyAsCameModel", "isThere", "Z", false)
  | 8 => ("AsManyAsCameModel", "tape", "[I", true)
  | 9 => ("AsManyAsCameModel", "taped", "I", false)
  | 10 => ("AsManyAsCameModel", "latest", "I", false)
  | 11 => ("AsManyAsCameModel", "length", "I", false)
  | 12 => ("AsManyAsCameModel", "cursor", "I", false)
  | 13 => ("AsManyAsCameModel", "token", "I", false)
  | 14 => ("AsManyAsCameModel", "start", "I", false)
  | 15 => ("AsManyAsCameModel", "till", "I", false)
  | 16 => ("AsManyAsCameModel", "fault", "I", false)
  | 17 => ("AsManyAsCameModel", "faultAt", "I", false)
  | 18 => ("AsManyAsCameModel", "ways", "[J", true)
  | 19 => ("AsManyAsCameModel", "isKept", "[Z", true)
  | 20 => ("AsManyAsCameModel", "kept", "[I", true)
  | 21 => ("AsManyAsCameModel", "trace", "[I", true)
  | _ => ("AsManyAsCameModel", "traced", "I", false)
def m_cl : List vw_C := [("AsManyAsCame", m_T0, 9), ("AsManyAsCame$Asked", m_T1, 3), ("AsManyAsCame$Numbers", m_T2, 1), ("AsManyAsCame$Row", m_T3, 4), ("AsManyAsCame$Tape", m_T4, 6), ("AsManyAsCame$Town", m_T5, 15), ("AsManyAsCameModel", m_T6, 23)]
