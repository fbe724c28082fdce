/-! what the classes' constant pools name, with the places of the words in tables_1 (of selects: in lw_tbl, where 60 private ones come first) -/
def m_np : Nat := 60
def m_cpf : List (Nat × Nat × Nat × Nat × Nat) := [(0, 11, 0, 0, 188), (0, 18, 0, 1, 189), (0, 25, 0, 2, 190), (0, 29, 0, 3, 191), (0, 32, 0, 4, 192), (0, 41, 0, 5, 193), (0, 50, 0, 6, 194), (0, 54, 0, 7, 195), (0, 58, 0, 8, 196), (0, 82, 3, 1, 174), (0, 86, 3, 3, 178), (0, 93, 3, 2, 176), (0, 100, 3, 0, 171), (0, 107, 4, 1, 45), (0, 117, 4, 5, 51), (0, 121, 4, 2, 47), (0, 127, 5, 8, 94), (0, 130, 5, 0, 75), (0, 154, 5, 10, 99), (0, 166, 5, 11, 102), (0, 169, 5, 12, 105), (0, 176, 5, 13, 107), (0, 226, 1, 2, 153), (0, 233, 1, 1, 151), (0, 240, 5, 9, 96), (0, 241, 5, 5, 87), (0, 244, 5, 2, 80), (0, 247, 5, 6, 89), (0, 250, 5, 7, 91), (0, 253, 5, 4, 85), (1, 14, 1, 1, 150), (1, 18, 1, 2, 152), (1, 22, 1, 0, 149), (1, 41, 5, 10, 98), (1, 59, 5, 12, 104), (1, 66, 5, 11, 101), (2, 13, 2, 0, 38), (3, 14, 3, 0, 170), (3, 20, 3, 1, 173), (3, 24, 3, 2, 175), (3, 28, 3, 3, 177), (4, 14, 4, 0, 43), (4, 20, 4, 1, 44), (4, 24, 4, 2, 46), (4, 27, 4, 3, 48), (4, 30, 4, 4, 49), (4, 33, 4, 5, 50), (4, 58, 5, 1, 77), (4, 65, 5, 2, 79), (4, 68, 5, 3, 82), (4, 71, 5, 4, 84), (4, 82, 5, 0, 74), (4, 92, 5, 8, 93), (5, 9, 5, 0, 73), (5, 15, 5, 1, 76), (5, 19, 5, 2, 78), (5, 22, 5, 3, 81), (5, 25, 5, 4, 83), (5, 28, 5, 5, 86), (5, 31, 5, 6, 88), (5, 34, 5, 7, 90), (5, 37, 5, 8, 92), (5, 40, 5, 9, 95), (5, 48, 5, 10, 97), (5, 52, 5, 11, 100), (5, 55, 5, 12, 103), (5, 58, 5, 13, 106), (5, 61, 5, 14, 108), (5, 116, 3, 0, 172), (6, 7, 6, 2, 659), (6, 13, 6, 3, 660), (6, 16, 6, 4, 661), (6, 19, 6, 5, 662), (6, 22, 6, 6, 663), (6, 25, 6, 8, 665), (6, 28, 6, 18, 675), (6, 32, 6, 19, 676), (6, 36, 6, 20, 677), (6, 39, 6, 21, 678), (6, 42, 6, 0, 657), (6, 46, 6, 1, 658), (6, 69, 6, 9, 666), (6, 75, 6, 11, 668), (6, 79, 6, 12, 669), (6, 85, 6, 14, 671), (6, 88, 6, 13, 670), (6, 97, 6, 15, 672), (6, 100, 6, 16, 673), (6, 106, 6, 17, 674), (6, 171, 6, 10, 667), (6, 175, 6, 7, 664), (6, 262, 6, 22, 679), (17, 9, 17, 0, 1041), (17, 15, 17, 1, 1042)]
def m_cpg : List (Nat × Nat × Nat × Nat × Nat) := [(0, 257, 16, 0, 604), (1, 26, 16, 2, 614), (1, 38, 16, 3, 631), (1, 50, 16, 0, 621), (5, 83, 16, 1, 439), (17, 38, 0, 1, 325), (17, 1053, 20, 0, 341)]
def m_cpc : List (Nat × Nat × Nat × Nat) := [(0, 70, 1, 227), (0, 110, 3, 282), (0, 120, 5, 403), (0, 133, 2, 418), (0, 175, 0, 485), (0, 256, 4, 232), (5, 72, 0, 467), (6, 49, 4, 746), (6, 62, 1, 741), (6, 72, 3, 764), (6, 78, 0, 782), (6, 174, 5, 842), (6, 200, 2, 851)]
def m_cpl : List (Nat × Nat × Nat × Nat) := [(7, 32, 21, 1040), (6, 50, 0, 736), (6, 60, 1, 740), (6, 67, 2, 763), (6, 73, 3, 765), (6, 121, 5, 809), (6, 123, 6, 810), (6, 125, 7, 811), (6, 131, 9, 837), (6, 133, 10, 838), (6, 135, 11, 839), (6, 137, 12, 840), (6, 139, 13, 841), (6, 141, 4, 797), (6, 166, 8, 828), (6, 201, 14, 852), (6, 247, 15, 975), (6, 249, 16, 976), (6, 251, 17, 981), (6, 253, 18, 982), (6, 255, 19, 983), (6, 257, 20, 1000)]
def m_cps : List (Nat × Nat × Nat × Nat) := [(4, 48, 0, 308), (4, 86, 4, 384), (4, 102, 1, 373), (4, 104, 2, 374), (4, 106, 3, 375), (4, 108, 5, 389), (4, 110, 6, 390), (4, 112, 7, 391), (4, 114, 8, 392), (4, 116, 9, 393)]
def m_cpm : List (Nat × Nat × Nat × Nat × Nat × Nat × Bool × Nat) := [(0, 62, 1, 220, 222, 0, false, 1), (0, 66, 2, 224, 225, 0, false, 1), (0, 71, 3, 228, 230, 1, false, 1), (0, 75, 51, 233, 234, 295, false, 7), (0, 79, 4, 241, 243, 2, false, 1), (0, 89, 52, 249, 250, 311, false, 7), (0, 96, 53, 261, 262, 323, false, 7), (0, 103, 49, 265, 266, 327, false, 3), (0, 111, 56, 283, 284, 345, false, 2), (0, 114, 57, 292, 293, 354, false, 2), (0, 124, 70, 404, 405, 466, false, 5), (0, 134, 71, 419, 420, 481, false, 5), (0, 137, 68, 450, 395, 456, false, 5), (0, 141, 76, 455, 456, 517, false, 5), (0, 145, 77, 459, 460, 521, false, 5), (0, 148, 78, 468, 464, 525, false, 5), (0, 151, 75, 469, 442, 503, false, 5), (0, 157, 48, 474, 254, 315, false, 3), (0, 160, 69, 475, 400, 461, false, 5), (0, 163, 50, 480, 270, 331, false, 3), (0, 172, 79, 481, 482, 543, false, 5), (0, 179, 54, 490, 491, 552, false, 7), (0, 182, 55, 494, 495, 556, false, 7), (0, 185, 80, 500, 501, 562, false, 5), (0, 189, 18, 513, 514, 0, false, 1), (0, 193, 19, 516, 517, 0, false, 1), (0, 197, 21, 523, 525, 14, false, 1), (0, 201, 25, 541, 543, 16, false, 1), (0, 204, 82, 553, 554, 615, false, 5), (0, 208, 83, 557, 558, 619, false, 5), (0, 211, 84, 565, 566, 627, false, 5), (0, 215, 30, 573, 575, 18, false, 1), (0, 219, 33, 585, 587, 19, false, 1), (0, 223, 37, 601, 602, 0, false, 1), (0, 227, 43, 610, 611, 672, false, 6), (0, 230, 46, 634, 628, 689, false, 6), (0, 236, 41, 643, 645, 22, false, 1), (0, 261, 81, 527, 505, 566, false, 5), (0, 264, 47, 528, 238, 299, false, 3), (0, 267, 22, 529, 531, 15, false, 1), (0, 271, 23, 533, 534, 0, false, 1), (0, 274, 160, 536, 36, 0, false, 4), (0, 279, 26, 545, 547, 17, false, 1), (1, 30, 44, 616, 618, 20, false, 6), (1, 34, 45, 622, 624, 21, false, 6), (1, 46, 50, 620, 270, 331, false, 3), (1, 55, 48, 626, 254, 315, false, 3), (1, 62, 46, 627, 628, 689, false, 6), (1, 69, 43, 633, 611, 672, false, 6), (2, 19, 50, 269, 270, 331, false, 3), (2, 23, 48, 273, 254, 315, false, 3), (3, 31, 47, 237, 238, 299, false, 3), (3, 34, 48, 253, 254, 315, false, 3), (3, 38, 50, 498, 270, 331, false, 3), (3, 42, 2, 499, 225, 0, true, 1), (4, 36, 48, 287, 254, 315, false, 3), (4, 40, 67, 296, 297, 358, false, 5), (4, 45, 58, 300, 302, 3, false, 2), (4, 50, 60, 309, 311, 4, false, 2), (4, 54, 63, 369, 371, 7, false, 2), (4, 61, 64, 376, 378, 8, false, 2), (4, 74, 62, 365, 367, 6, false, 2), (4, 78, 65, 380, 382, 9, false, 2), (4, 88, 61, 313, 315, 5, false, 2), (4, 95, 66, 385, 387, 10, false, 2), (4, 98, 68, 394, 395, 456, false, 5), (4, 118, 50, 304, 270, 331, false, 3), (4, 121, 162, 317, 318, 379, false, 9), (4, 125, 164, 327, 328, 389, false, 9), (4, 129, 59, 305, 306, 0, false, 2), (5, 64, 49, 408, 266, 327, false, 3), (5, 68, 78, 463, 464, 525, false, 5), (5, 73, 50, 430, 270, 331, false, 3), (5, 76, 48, 398, 254, 315, false, 3), (5, 80, 69, 399, 400, 461, false, 5), (5, 87, 74, 435, 437, 13, false, 5), (5, 91, 73, 431, 433, 12, false, 5), (5, 93, 161, 423, 424, 0, false, 4), (5, 98, 72, 426, 428, 11, false, 5), (5, 102, 75, 441, 442, 503, false, 5), (5, 105, 68, 445, 395, 456, false, 5), (5, 109, 81, 504, 505, 566, false, 5), (5, 113, 79, 508, 482, 543, false, 5), (7, 13, 0, 216, 217, 278, false, 1), (7, 17, 85, 729, 730, 791, false, 8), (7, 18, 5, 245, 246, 307, false, 1), (7, 21, 89, 747, 748, 809, false, 8), (7, 22, 6, 257, 258, 319, false, 1), (7, 26, 90, 751, 752, 813, false, 8), (7, 27, 7, 274, 275, 336, false, 1), (7, 31, 91, 755, 756, 817, false, 8), (7, 34, 8, 278, 279, 340, false, 1), (7, 38, 92, 759, 760, 821, false, 8), (7, 39, 9, 288, 289, 350, false, 1), (7, 43, 93, 766, 767, 828, false, 8), (7, 44, 10, 410, 411, 472, false, 1), (7, 47, 110, 843, 844, 905, false, 8), (7, 48, 11, 414, 415, 476, false, 1), (7, 52, 111, 847, 848, 909, false, 8), (7, 53, 12, 446, 447, 508, false, 1), (7, 56, 121, 888, 889, 950, false, 8), (7, 57, 13, 451, 452, 513, false, 1), (7, 60, 122, 892, 893, 954, false, 8), (7, 61, 14, 470, 471, 532, false, 1), (7, 64, 125, 904, 905, 966, false, 8), (7, 65, 15, 476, 477, 538, false, 1), (7, 68, 126, 908, 909, 970, false, 8), (7, 69, 16, 486, 487, 548, false, 1), (7, 72, 127, 912, 913, 974, false, 8), (7, 73, 17, 509, 510, 571, false, 1), (7, 76, 132, 932, 933, 994, false, 8), (7, 77, 20, 519, 520, 581, false, 1), (7, 80, 134, 940, 941, 1002, false, 8), (7, 81, 24, 537, 538, 599, false, 1), (7, 84, 137, 951, 952, 1013, false, 8), (7, 85, 27, 549, 550, 611, false, 1), (7, 88, 139, 959, 960, 1021, false, 8), (7, 89, 28, 561, 562, 623, false, 1), (7, 92, 141, 967, 968, 1029, false, 8), (7, 93, 29, 569, 570, 631, false, 1), (7, 96, 142, 971, 972, 1033, false, 8), (7, 97, 31, 577, 578, 639, false, 1), (7, 101, 143, 977, 978, 1039, false, 8), (7, 102, 32, 581, 582, 643, false, 1), (7, 105, 144, 984, 985, 1046, false, 8), (7, 106, 34, 589, 590, 651, false, 1), (7, 109, 145, 988, 989, 1050, false, 8), (7, 110, 35, 593, 594, 655, false, 1), (7, 113, 146, 992, 993, 1054, false, 8), (7, 114, 36, 597, 598, 659, false, 1), (7, 117, 147, 996, 997, 1058, false, 8), (7, 118, 38, 606, 607, 668, false, 1), (7, 121, 149, 1004, 1005, 1066, false, 8), (7, 122, 39, 635, 636, 697, false, 1), (7, 125, 155, 1028, 1029, 1090, false, 8), (7, 126, 40, 639, 640, 701, false, 1), (7, 129, 156, 1032, 1033, 1094, false, 8), (7, 130, 42, 647, 648, 709, false, 1), (7, 133, 157, 1036, 1037, 1098, false, 8), (6, 52, 87, 737, 738, 0, false, 8), (6, 56, 86, 733, 734, 0, false, 8), (6, 63, 88, 742, 744, 23, false, 8), (6, 82, 96, 778, 780, 26, false, 8), (6, 91, 97, 783, 784, 0, false, 8), (6, 94, 98, 786, 787, 0, false, 8), (6, 103, 95, 774, 776, 25, false, 8), (6, 109, 102, 802, 804, 30, false, 8), (6, 113, 106, 820, 822, 33, false, 8), (6, 117, 101, 798, 800, 29, false, 8), (6, 127, 100, 793, 795, 28, false, 8), (6, 143, 103, 806, 807, 0, false, 8), (6, 147, 104, 812, 814, 31, false, 8), (6, 150, 105, 816, 818, 32, false, 8), (6, 154, 107, 824, 826, 34, false, 8), (6, 157, 109, 833, 835, 36, false, 8), (6, 160, 94, 770, 772, 24, false, 8), (6, 163, 99, 789, 791, 27, false, 8), (6, 168, 108, 829, 831, 35, false, 8), (6, 179, 123, 896, 898, 45, false, 8), (6, 182, 114, 861, 863, 39, false, 8), (6, 185, 116, 869, 871, 41, false, 8), (6, 188, 117, 873, 874, 0, false, 8), (6, 191, 115, 865, 867, 40, false, 8), (6, 194, 120, 884, 886, 44, false, 8), (6, 197, 113, 857, 859, 38, false, 8), (6, 203, 112, 853, 855, 37, false, 8), (6, 206, 118, 876, 878, 42, false, 8), (6, 209, 119, 880, 882, 43, false, 8), (6, 212, 124, 900, 902, 46, false, 8), (6, 215, 131, 928, 930, 50, false, 8), (6, 219, 128, 916, 918, 47, false, 8), (6, 222, 129, 920, 922, 48, false, 8), (6, 225, 130, 924, 926, 49, false, 8), (6, 229, 133, 936, 938, 51, false, 8), (6, 233, 135, 944, 946, 52, false, 8), (6, 237, 136, 948, 949, 0, false, 8), (6, 241, 138, 955, 957, 53, false, 8), (6, 244, 140, 963, 965, 54, false, 8), (6, 259, 148, 1001, 1002, 0, false, 8), (6, 265, 152, 1016, 1018, 57, false, 8), (6, 268, 153, 1020, 1022, 58, false, 8), (6, 271, 151, 1012, 1014, 56, false, 8), (6, 274, 154, 1024, 1026, 59, false, 8), (6, 277, 150, 1008, 1010, 55, false, 8), (17, 335, 163, 321, 322, 383, false, 9), (17, 492, 165, 331, 332, 393, false, 9), (17, 495, 158, 335, 336, 0, false, 10), (17, 1059, 159, 343, 344, 0, false, 11), (8, 9, 166, 338, 339, 0, false, 9)]
def m_on (oc : Nat) : String := m_nth ["AsManyAsCame", "AsManyAsCame$Asked", "AsManyAsCame$Numbers", "AsManyAsCame$Row", "AsManyAsCame$Tape", "AsManyAsCame$Town", "AsManyAsCameModel", "AsManyAsCameLaw", "java/lang/StringLatin1", "jdk/internal/util/Preconditions", "java/lang/Math", "", "", "", "", "", "", "java/lang/String"] oc ""
def m_fn (c j : Nat) : String × String × String := m_nth (m_nth [[("AsManyAsCame", "rows", "[LAsManyAsCame$Row;"), ("AsManyAsCame", "tape", "LAsManyAsCame$Tape;"), ("AsManyAsCame", "town", "LAsManyAsCame$Town;"), ("AsManyAsCame", "draft", "LAsManyAsCame$Town;"), ("AsManyAsCame", "images", "[LAsManyAsCame$Town;"), ("AsManyAsCame", "asked", "LAsManyAsCame$Asked;"), ("AsManyAsCame", "ways", "LAsManyAsCame$Numbers;"), ("AsManyAsCame", "latestFault", "I"), ("AsManyAsCame", "latestFinding", "I")],
  [("AsManyAsCame$Asked", "town", "LAsManyAsCame$Town;"), ("AsManyAsCame$Asked", "bodies", "LAsManyAsCame$Numbers;"), ("AsManyAsCame$Asked", "length", "I")],
  [("AsManyAsCame$Numbers", "cells", "[I")],
  [("AsManyAsCame$Row", "items", "LAsManyAsCame$Numbers;"), ("AsManyAsCame$Row", "there", "Z"), ("AsManyAsCame$Row", "lane", "I"), ("AsManyAsCame$Row", "size", "I")],
  [("AsManyAsCame$Tape", "bytes", "LAsManyAsCame$Numbers;"), ("AsManyAsCame$Tape", "length", "I"), ("AsManyAsCame$Tape", "from", "I"), ("AsManyAsCame$Tape", "end", "I"), ("AsManyAsCame$Tape", "token", "I"), ("AsManyAsCame$Tape", "fault", "I")],
  [("AsManyAsCame$Town", "stands", "Z"), ("AsManyAsCame$Town", "law", "I"), ("AsManyAsCame$Town", "bread", "I"), ("AsManyAsCame$Town", "pay", "I"), ("AsManyAsCame$Town", "came", "I"), ("AsManyAsCame$Town", "days", "I"), ("AsManyAsCame$Town", "spent", "I"), ("AsManyAsCame$Town", "hungry", "I"), ("AsManyAsCame$Town", "numbers", "I"), ("AsManyAsCame$Town", "size", "I"), ("AsManyAsCame$Town", "kinds", "LAsManyAsCame$Numbers;"), ("AsManyAsCame$Town", "ranks", "LAsManyAsCame$Numbers;"), ("AsManyAsCame$Town", "hastes", "LAsManyAsCame$Numbers;"), ("AsManyAsCame$Town", "leftOn", "LAsManyAsCame$Numbers;"), ("AsManyAsCame$Town", "list", "LAsManyAsCame$Numbers;")],
  [("AsManyAsCameModel", "thrown", "I"), ("AsManyAsCameModel", "status", "I"), ("AsManyAsCameModel", "lane", "[I"), ("AsManyAsCameModel", "many", "[I"), ("AsManyAsCameModel", "item", "[I"), ("AsManyAsCameModel", "town", "[I"), ("AsManyAsCameModel", "fresh", "[I"), ("AsManyAsCameModel", "isThere", "Z"), ("AsManyAsCameModel", "tape", "[I"), ("AsManyAsCameModel", "taped", "I"), ("AsManyAsCameModel", "latest", "I"), ("AsManyAsCameModel", "length", "I"), ("AsManyAsCameModel", "cursor", "I"), ("AsManyAsCameModel", "token", "I"), ("AsManyAsCameModel", "start", "I"), ("AsManyAsCameModel", "till", "I"), ("AsManyAsCameModel", "fault", "I"), ("AsManyAsCameModel", "faultAt", "I"), ("AsManyAsCameModel", "ways", "[J"), ("AsManyAsCameModel", "isKept", "[Z"), ("AsManyAsCameModel", "kept", "[I"), ("AsManyAsCameModel", "trace", "[I"), ("AsManyAsCameModel", "traced", "I")],
  [],
  [],
  [],
  [],
  [],
  [],
  [],
  [],
  [],
  [],
  [("java/lang/String", "value", "[B"), ("java/lang/String", "coder", "B")]] c []) j ("", "", "")
def m_T0 : u_T := fun k => match k with
  | 0 => ("AsManyAsCame", "rows", "[LAsManyAsCame$Row;", true)
  | 1 => ("AsManyAsCame", "tape", "LAsManyAsCame$Tape;", true)
  | 2 => ("AsManyAsCame", "town", "LAsManyAsCame$Town;", true)
  | 3 => ("AsManyAsCame", "draft", "LAsManyAsCame$Town;", true)
  | 4 => ("AsManyAsCame", "images", "[LAsManyAsCame$Town;", true)
  | 5 => ("AsManyAsCame", "asked", "LAsManyAsCame$Asked;", true)
  | 6 => ("AsManyAsCame", "ways", "LAsManyAsCame$Numbers;", true)
  | 7 => ("AsManyAsCame", "latestFault", "I", false)
  | _ => ("AsManyAsCame", "latestFinding", "I", false)
def m_T1 : u_T := fun k => match k with
  | 0 => ("AsManyAsCame$Asked", "town", "LAsManyAsCame$Town;", true)
  | 1 => ("AsManyAsCame$Asked", "bodies", "LAsManyAsCame$Numbers;", true)
  | _ => ("AsManyAsCame$Asked", "length", "I", false)
def m_T2 : u_T := fun k => match k with
  | _ => ("AsManyAsCame$Numbers", "cells", "[I", true)
def m_T3 : u_T := fun k => match k with
  | 0 => ("AsManyAsCame$Row", "items", "LAsManyAsCame$Numbers;", true)
  | 1 => ("AsManyAsCame$Row", "there", "Z", false)
  | 2 => ("AsManyAsCame$Row", "lane", "I", false)
  | _ => ("AsManyAsCame$Row", "size", "I", false)
def m_T4 : u_T := fun k => match k with
  | 0 => ("AsManyAsCame$Tape", "bytes", "LAsManyAsCame$Numbers;", true)
  | 1 => ("AsManyAsCame$Tape", "length", "I", false)
  | 2 => ("AsManyAsCame$Tape", "from", "I", false)
  | 3 => ("AsManyAsCame$Tape", "end", "I", false)
  | 4 => ("AsManyAsCame$Tape", "token", "I", false)
  | _ => ("AsManyAsCame$Tape", "fault", "I", false)
def m_T5 : u_T := fun k => match k with
  | 0 => ("AsManyAsCame$Town", "stands", "Z", false)
  | 1 => ("AsManyAsCame$Town", "law", "I", false)
  | 2 => ("AsManyAsCame$Town", "bread", "I", false)
  | 3 => ("AsManyAsCame$Town", "pay", "I", false)
  | 4 => ("AsManyAsCame$Town", "came", "I", false)
  | 5 => ("AsManyAsCame$Town", "days", "I", false)
  | 6 => ("AsManyAsCame$Town", "spent", "I", false)
  | 7 => ("AsManyAsCame$Town", "hungry", "I", false)
  | 8 => ("AsManyAsCame$Town", "numbers", "I", false)
  | 9 => ("AsManyAsCame$Town", "size", "I", false)
  | 10 => ("AsManyAsCame$Town", "kinds", "LAsManyAsCame$Numbers;", true)
  | 11 => ("AsManyAsCame$Town", "ranks", "LAsManyAsCame$Numbers;", true)
  | 12 => ("AsManyAsCame$Town", "hastes", "LAsManyAsCame$Numbers;", true)
  | 13 => ("AsManyAsCame$Town", "leftOn", "LAsManyAsCame$Numbers;", true)
  | _ => ("AsManyAsCame$Town", "list", "LAsManyAsCame$Numbers;", true)
def m_T6 : u_T := fun k => match k with
  | 0 => ("AsManyAsCameModel", "thrown", "I", false)
  | 1 => ("AsManyAsCameModel", "status", "I", false)
  | 2 => ("AsManyAsCameModel", "lane", "[I", true)
  | 3 => ("AsManyAsCameModel", "many", "[I", true)
  | 4 => ("AsManyAsCameModel", "item", "[I", true)
  | 5 => ("AsManyAsCameModel", "town", "[I", true)
  | 6 => ("AsManyAsCameModel", "fresh", "[I", true)
  | 7 => ("AsManyAsCameModel", "isThere", "Z", false)
  | 8 => ("AsManyAsCameModel", "tape", "[I", true)
  | 9 => ("AsManyAsCameModel", "taped", "I", false)
  | 10 => ("AsManyAsCameModel", "latest", "I", false)
  | 11 => ("AsManyAsCameModel", "length", "I", false)
  | 12 => ("AsManyAsCameModel", "cursor", "I", false)
  | 13 => ("AsManyAsCameModel", "token", "I", false)
  | 14 => ("AsManyAsCameModel", "start", "I", false)
  | 15 => ("AsManyAsCameModel", "till", "I", false)
  | 16 => ("AsManyAsCameModel", "fault", "I", false)
  | 17 => ("AsManyAsCameModel", "faultAt", "I", false)
  | 18 => ("AsManyAsCameModel", "ways", "[J", true)
  | 19 => ("AsManyAsCameModel", "isKept", "[Z", true)
  | 20 => ("AsManyAsCameModel", "kept", "[I", true)
  | 21 => ("AsManyAsCameModel", "trace", "[I", true)
  | _ => ("AsManyAsCameModel", "traced", "I", false)
def m_cl : List vw_C := [("AsManyAsCame", m_T0, 9), ("AsManyAsCame$Asked", m_T1, 3), ("AsManyAsCame$Numbers", m_T2, 1), ("AsManyAsCame$Row", m_T3, 4), ("AsManyAsCame$Tape", m_T4, 6), ("AsManyAsCame$Town", m_T5, 15), ("AsManyAsCameModel", m_T6, 23)]
