/-! what the classes' constant pools name, with the places of the words in tables_1 (of selects: in lw_tbl, where 63 private ones come first) -/
def m_np : Nat := 63
def m_cpf : List (Nat × Nat × Nat × Nat × Nat) := [(0, 11, 0, 0, 185), (0, 18, 0, 1, 186), (0, 25, 0, 2, 187), (0, 29, 0, 3, 188), (0, 32, 0, 4, 189), (0, 39, 0, 5, 190), (0, 48, 0, 6, 191), (0, 52, 0, 7, 192), (0, 56, 0, 8, 193), (0, 80, 3, 1, 171), (0, 84, 3, 3, 175), (0, 91, 3, 2, 173), (0, 98, 3, 0, 168), (0, 105, 4, 1, 45), (0, 116, 4, 5, 51), (0, 120, 4, 2, 47), (0, 126, 5, 8, 94), (0, 129, 5, 0, 75), (0, 153, 5, 10, 99), (0, 165, 5, 11, 102), (0, 168, 5, 12, 105), (0, 175, 5, 13, 107), (0, 218, 1, 1, 152), (0, 226, 1, 0, 150), (0, 233, 5, 9, 96), (0, 234, 5, 5, 87), (0, 237, 5, 2, 80), (0, 240, 5, 6, 89), (0, 243, 5, 7, 91), (0, 246, 5, 4, 85), (1, 14, 1, 0, 149), (1, 18, 1, 1, 151), (1, 26, 5, 10, 98), (1, 55, 5, 12, 104), (1, 62, 5, 11, 101), (2, 13, 2, 0, 38), (3, 14, 3, 0, 167), (3, 20, 3, 1, 170), (3, 24, 3, 2, 172), (3, 28, 3, 3, 174), (4, 14, 4, 0, 43), (4, 20, 4, 1, 44), (4, 24, 4, 2, 46), (4, 27, 4, 3, 48), (4, 30, 4, 4, 49), (4, 33, 4, 5, 50), (4, 58, 5, 1, 77), (4, 65, 5, 2, 79), (4, 68, 5, 3, 82), (4, 71, 5, 4, 84), (4, 82, 5, 0, 74), (4, 92, 5, 8, 93), (5, 9, 5, 0, 73), (5, 15, 5, 1, 76), (5, 19, 5, 2, 78), (5, 22, 5, 3, 81), (5, 25, 5, 4, 83), (5, 28, 5, 5, 86), (5, 31, 5, 6, 88), (5, 34, 5, 7, 90), (5, 37, 5, 8, 92), (5, 40, 5, 9, 95), (5, 48, 5, 10, 97), (5, 52, 5, 11, 100), (5, 55, 5, 12, 103), (5, 58, 5, 13, 106), (5, 61, 5, 14, 108), (5, 117, 3, 0, 169), (6, 7, 6, 2, 660), (6, 13, 6, 3, 661), (6, 16, 6, 4, 662), (6, 19, 6, 5, 663), (6, 22, 6, 6, 664), (6, 25, 6, 8, 666), (6, 28, 6, 18, 676), (6, 32, 6, 19, 677), (6, 36, 6, 20, 678), (6, 39, 6, 21, 679), (6, 42, 6, 0, 658), (6, 46, 6, 1, 659), (6, 69, 6, 9, 667), (6, 75, 6, 11, 669), (6, 79, 6, 12, 670), (6, 85, 6, 14, 672), (6, 88, 6, 13, 671), (6, 97, 6, 15, 673), (6, 100, 6, 16, 674), (6, 106, 6, 17, 675), (6, 171, 6, 10, 668), (6, 175, 6, 7, 665), (6, 262, 6, 22, 680), (17, 9, 17, 0, 1042), (17, 15, 17, 1, 1043)]
def m_cpg : List (Nat × Nat × Nat × Nat × Nat) := [(0, 260, 16, 0, 606), (1, 22, 16, 2, 616), (1, 43, 16, 3, 632), (1, 46, 16, 0, 622), (5, 83, 16, 1, 436), (17, 38, 0, 1, 322), (17, 1053, 20, 0, 338)]
def m_cpc : List (Nat × Nat × Nat × Nat) := [(0, 68, 1, 224), (0, 108, 3, 279), (0, 119, 5, 400), (0, 132, 2, 415), (0, 174, 0, 482), (0, 249, 4, 229), (5, 72, 0, 464), (6, 49, 4, 747), (6, 62, 1, 742), (6, 72, 3, 765), (6, 78, 0, 783), (6, 174, 5, 843), (6, 200, 2, 852)]
def m_cpl : List (Nat × Nat × Nat × Nat) := [(7, 32, 21, 1041), (6, 50, 0, 737), (6, 60, 1, 741), (6, 67, 2, 764), (6, 73, 3, 766), (6, 121, 5, 810), (6, 123, 6, 811), (6, 125, 7, 812), (6, 131, 9, 838), (6, 133, 10, 839), (6, 135, 11, 840), (6, 137, 12, 841), (6, 139, 13, 842), (6, 141, 4, 798), (6, 166, 8, 829), (6, 201, 14, 853), (6, 247, 15, 976), (6, 249, 16, 977), (6, 251, 17, 982), (6, 253, 18, 983), (6, 255, 19, 984), (6, 257, 20, 1001)]
def m_cps : List (Nat × Nat × Nat × Nat) := [(4, 48, 0, 305), (4, 86, 4, 381), (4, 102, 1, 370), (4, 104, 2, 371), (4, 106, 3, 372), (4, 108, 5, 386), (4, 110, 6, 387), (4, 112, 7, 388), (4, 114, 8, 389), (4, 116, 9, 390)]
def m_cpm : List (Nat × Nat × Nat × Nat × Nat × Nat × Bool × Nat) := [(0, 60, 1, 217, 219, 0, false, 1), (0, 64, 2, 221, 222, 0, false, 1), (0, 69, 3, 225, 227, 1, false, 1), (0, 73, 51, 230, 231, 295, false, 7), (0, 77, 4, 238, 240, 2, false, 1), (0, 87, 52, 246, 247, 311, false, 7), (0, 94, 53, 258, 259, 323, false, 7), (0, 101, 49, 262, 263, 327, false, 3), (0, 109, 56, 280, 281, 345, false, 2), (0, 112, 57, 289, 290, 354, false, 2), (0, 123, 70, 401, 402, 466, false, 5), (0, 133, 71, 416, 417, 481, false, 5), (0, 136, 68, 447, 392, 456, false, 5), (0, 140, 76, 452, 453, 517, false, 5), (0, 144, 77, 456, 457, 521, false, 5), (0, 147, 78, 465, 461, 525, false, 5), (0, 150, 75, 466, 439, 503, false, 5), (0, 156, 48, 471, 251, 315, false, 3), (0, 159, 69, 472, 397, 461, false, 5), (0, 162, 50, 477, 267, 331, false, 3), (0, 171, 79, 478, 479, 543, false, 5), (0, 178, 167, 487, 489, 14, false, 1), (0, 182, 80, 501, 502, 566, false, 5), (0, 186, 18, 514, 516, 15, false, 1), (0, 190, 21, 525, 527, 16, false, 1), (0, 194, 25, 543, 545, 18, false, 1), (0, 197, 82, 555, 556, 620, false, 5), (0, 201, 83, 559, 560, 624, false, 5), (0, 204, 84, 567, 568, 632, false, 5), (0, 208, 30, 575, 577, 20, false, 1), (0, 211, 33, 587, 589, 21, false, 1), (0, 215, 37, 603, 604, 0, false, 1), (0, 219, 43, 612, 614, 22, true, 6), (0, 223, 46, 635, 630, 24, true, 6), (0, 229, 41, 644, 646, 25, false, 1), (0, 250, 54, 491, 492, 556, false, 7), (0, 253, 55, 495, 496, 560, false, 7), (0, 256, 19, 518, 519, 0, false, 1), (0, 264, 81, 529, 506, 570, false, 5), (0, 267, 47, 530, 235, 299, false, 3), (0, 270, 22, 531, 533, 17, false, 1), (0, 274, 23, 535, 536, 0, false, 1), (0, 277, 160, 538, 36, 0, false, 4), (0, 282, 26, 547, 549, 19, false, 1), (1, 31, 50, 618, 267, 331, false, 3), (1, 35, 44, 619, 620, 0, false, 6), (1, 39, 45, 623, 625, 23, false, 6), (1, 51, 48, 627, 251, 315, false, 3), (1, 58, 46, 628, 630, 24, false, 6), (1, 65, 43, 634, 614, 22, false, 6), (2, 19, 50, 266, 267, 331, false, 3), (2, 23, 48, 270, 251, 315, false, 3), (3, 31, 47, 234, 235, 299, false, 3), (3, 34, 48, 250, 251, 315, false, 3), (3, 38, 50, 499, 267, 331, false, 3), (3, 42, 2, 500, 222, 0, true, 1), (4, 36, 48, 284, 251, 315, false, 3), (4, 40, 67, 293, 294, 358, false, 5), (4, 45, 58, 297, 299, 3, false, 2), (4, 50, 60, 306, 308, 4, false, 2), (4, 54, 63, 366, 368, 7, false, 2), (4, 61, 64, 373, 375, 8, false, 2), (4, 74, 62, 362, 364, 6, false, 2), (4, 78, 65, 377, 379, 9, false, 2), (4, 88, 61, 310, 312, 5, false, 2), (4, 95, 66, 382, 384, 10, false, 2), (4, 98, 68, 391, 392, 456, false, 5), (4, 118, 50, 301, 267, 331, false, 3), (4, 121, 162, 314, 315, 379, false, 9), (4, 125, 164, 324, 325, 389, false, 9), (4, 129, 59, 302, 303, 0, false, 2), (5, 64, 49, 405, 263, 327, false, 3), (5, 68, 78, 460, 461, 525, false, 5), (5, 73, 50, 427, 267, 331, false, 3), (5, 76, 48, 395, 251, 315, false, 3), (5, 80, 69, 396, 397, 461, false, 5), (5, 87, 74, 432, 434, 13, false, 5), (5, 91, 73, 428, 430, 12, false, 5), (5, 94, 161, 420, 421, 0, false, 4), (5, 99, 72, 423, 425, 11, false, 5), (5, 103, 75, 438, 439, 503, false, 5), (5, 106, 68, 442, 392, 456, false, 5), (5, 110, 81, 505, 506, 570, false, 5), (5, 114, 79, 509, 479, 543, false, 5), (7, 13, 0, 213, 214, 278, false, 1), (7, 17, 85, 730, 731, 795, false, 8), (7, 18, 5, 242, 243, 307, false, 1), (7, 21, 89, 748, 749, 813, false, 8), (7, 22, 6, 254, 255, 319, false, 1), (7, 26, 90, 752, 753, 817, false, 8), (7, 27, 7, 271, 272, 336, false, 1), (7, 31, 91, 756, 757, 821, false, 8), (7, 34, 8, 275, 276, 340, false, 1), (7, 38, 92, 760, 761, 825, false, 8), (7, 39, 9, 285, 286, 350, false, 1), (7, 43, 93, 767, 768, 832, false, 8), (7, 44, 10, 407, 408, 472, false, 1), (7, 47, 110, 844, 845, 909, false, 8), (7, 48, 11, 411, 412, 476, false, 1), (7, 52, 111, 848, 849, 913, false, 8), (7, 53, 12, 443, 444, 508, false, 1), (7, 56, 121, 889, 890, 954, false, 8), (7, 57, 13, 448, 449, 513, false, 1), (7, 60, 122, 893, 894, 958, false, 8), (7, 61, 14, 467, 468, 532, false, 1), (7, 64, 125, 905, 906, 970, false, 8), (7, 65, 15, 473, 474, 538, false, 1), (7, 68, 126, 909, 910, 974, false, 8), (7, 69, 16, 483, 484, 548, false, 1), (7, 72, 127, 913, 914, 978, false, 8), (7, 73, 17, 510, 511, 575, false, 1), (7, 76, 132, 933, 934, 998, false, 8), (7, 77, 20, 521, 522, 586, false, 1), (7, 80, 134, 941, 942, 1006, false, 8), (7, 81, 24, 539, 540, 604, false, 1), (7, 84, 137, 952, 953, 1017, false, 8), (7, 85, 27, 551, 552, 616, false, 1), (7, 88, 139, 960, 961, 1025, false, 8), (7, 89, 28, 563, 564, 628, false, 1), (7, 92, 141, 968, 969, 1033, false, 8), (7, 93, 29, 571, 572, 636, false, 1), (7, 96, 142, 972, 973, 1037, false, 8), (7, 97, 31, 579, 580, 644, false, 1), (7, 101, 143, 978, 979, 1043, false, 8), (7, 102, 32, 583, 584, 648, false, 1), (7, 105, 144, 985, 986, 1050, false, 8), (7, 106, 34, 591, 592, 656, false, 1), (7, 109, 145, 989, 990, 1054, false, 8), (7, 110, 35, 595, 596, 660, false, 1), (7, 113, 146, 993, 994, 1058, false, 8), (7, 114, 36, 599, 600, 664, false, 1), (7, 117, 147, 997, 998, 1062, false, 8), (7, 118, 38, 608, 609, 673, false, 1), (7, 121, 149, 1005, 1006, 1070, false, 8), (7, 122, 39, 636, 637, 701, false, 1), (7, 125, 155, 1029, 1030, 1094, false, 8), (7, 126, 40, 640, 641, 705, false, 1), (7, 129, 156, 1033, 1034, 1098, false, 8), (7, 130, 42, 648, 649, 713, false, 1), (7, 133, 157, 1037, 1038, 1102, false, 8), (6, 52, 87, 738, 739, 0, false, 8), (6, 56, 86, 734, 735, 0, false, 8), (6, 63, 88, 743, 745, 26, false, 8), (6, 82, 96, 779, 781, 29, false, 8), (6, 91, 97, 784, 785, 0, false, 8), (6, 94, 98, 787, 788, 0, false, 8), (6, 103, 95, 775, 777, 28, false, 8), (6, 109, 102, 803, 805, 33, false, 8), (6, 113, 106, 821, 823, 36, false, 8), (6, 117, 101, 799, 801, 32, false, 8), (6, 127, 100, 794, 796, 31, false, 8), (6, 143, 103, 807, 808, 0, false, 8), (6, 147, 104, 813, 815, 34, false, 8), (6, 150, 105, 817, 819, 35, false, 8), (6, 154, 107, 825, 827, 37, false, 8), (6, 157, 109, 834, 836, 39, false, 8), (6, 160, 94, 771, 773, 27, false, 8), (6, 163, 99, 790, 792, 30, false, 8), (6, 168, 108, 830, 832, 38, false, 8), (6, 179, 123, 897, 899, 48, false, 8), (6, 182, 114, 862, 864, 42, false, 8), (6, 185, 116, 870, 872, 44, false, 8), (6, 188, 117, 874, 875, 0, false, 8), (6, 191, 115, 866, 868, 43, false, 8), (6, 194, 120, 885, 887, 47, false, 8), (6, 197, 113, 858, 860, 41, false, 8), (6, 203, 112, 854, 856, 40, false, 8), (6, 206, 118, 877, 879, 45, false, 8), (6, 209, 119, 881, 883, 46, false, 8), (6, 212, 124, 901, 903, 49, false, 8), (6, 215, 131, 929, 931, 53, false, 8), (6, 219, 128, 917, 919, 50, false, 8), (6, 222, 129, 921, 923, 51, false, 8), (6, 225, 130, 925, 927, 52, false, 8), (6, 229, 133, 937, 939, 54, false, 8), (6, 233, 135, 945, 947, 55, false, 8), (6, 237, 136, 949, 950, 0, false, 8), (6, 241, 138, 956, 958, 56, false, 8), (6, 244, 140, 964, 966, 57, false, 8), (6, 259, 148, 1002, 1003, 0, false, 8), (6, 265, 152, 1017, 1019, 60, false, 8), (6, 268, 153, 1021, 1023, 61, false, 8), (6, 271, 151, 1013, 1015, 59, false, 8), (6, 274, 154, 1025, 1027, 62, false, 8), (6, 277, 150, 1009, 1011, 58, false, 8), (17, 335, 163, 318, 319, 383, false, 9), (17, 492, 165, 328, 329, 393, false, 9), (17, 495, 158, 332, 333, 0, false, 10), (17, 1059, 159, 340, 341, 0, false, 11), (8, 9, 166, 335, 336, 0, false, 9)]
def m_on (oc : Nat) : String := m_nth ["AsManyAsCame", "AsManyAsCame$Asked", "AsManyAsCame$Numbers", "AsManyAsCame$Row", "AsManyAsCame$Tape", "AsManyAsCame$Town", "AsManyAsCameModel", "AsManyAsCameLaw", "java/lang/StringLatin1", "jdk/internal/util/Preconditions", "java/lang/Math", "", "", "", "", "", "", "java/lang/String"] oc ""
def m_fn (c j : Nat) : String × String × String := m_nth (m_nth [[("AsManyAsCame", "rows", "[LAsManyAsCame$Row;"), ("AsManyAsCame", "tape", "LAsManyAsCame$Tape;"), ("AsManyAsCame", "town", "LAsManyAsCame$Town;"), ("AsManyAsCame", "draft", "LAsManyAsCame$Town;"), ("AsManyAsCame", "images", "[LAsManyAsCame$Town;"), ("AsManyAsCame", "asked", "LAsManyAsCame$Asked;"), ("AsManyAsCame", "ways", "LAsManyAsCame$Numbers;"), ("AsManyAsCame", "latestFault", "I"), ("AsManyAsCame", "latestFinding", "I")],
  [("AsManyAsCame$Asked", "bodies", "LAsManyAsCame$Numbers;"), ("AsManyAsCame$Asked", "length", "I")],
  [("AsManyAsCame$Numbers", "cells", "[I")],
  [("AsManyAsCame$Row", "items", "LAsManyAsCame$Numbers;"), ("AsManyAsCame$Row", "there", "Z"), ("AsManyAsCame$Row", "lane", "I"), ("AsManyAsCame$Row", "size", "I")],
  [("AsManyAsCame$Tape", "bytes", "LAsManyAsCame$Numbers;"), ("AsManyAsCame$Tape", "length", "I"), ("AsManyAsCame$Tape", "from", "I"), ("AsManyAsCame$Tape", "end", "I"), ("AsManyAsCame$Tape", "token", "I"), ("AsManyAsCame$Tape", "fault", "I")],
  [("AsManyAsCame$Town", "stands", "Z"), ("AsManyAsCame$Town", "law", "I"), ("AsManyAsCame$Town", "bread", "I"), ("AsManyAsCame$Town", "pay", "I"), ("AsManyAsCame$Town", "came", "I"), ("AsManyAsCame$Town", "days", "I"), ("AsManyAsCame$Town", "spent", "I"), ("AsManyAsCame$Town", "hungry", "I"), ("AsManyAsCame$Town", "numbers", "I"), ("AsManyAsCame$Town", "size", "I"), ("AsManyAsCame$Town", "kinds", "LAsManyAsCame$Numbers;"), ("AsManyAsCame$Town", "ranks", "LAsManyAsCame$Numbers;"), ("AsManyAsCame$Town", "hastes", "LAsManyAsCame$Numbers;"), ("AsManyAsCame$Town", "leftOn", "LAsManyAsCame$Numbers;"), ("AsManyAsCame$Town", "list", "LAsManyAsCame$Numbers;")],
  [("AsManyAsCameModel", "thrown", "I"), ("AsManyAsCameModel", "status", "I"), ("AsManyAsCameModel", "lane", "[I"), ("AsManyAsCameModel", "many", "[I"), ("AsManyAsCameModel", "item", "[I"), ("AsManyAsCameModel", "town", "[I"), ("AsManyAsCameModel", "fresh", "[I"), ("AsManyAsCameModel", "isThere", "Z"), ("AsManyAsCameModel", "tape", "[I"), ("AsManyAsCameModel", "taped", "I"), ("AsManyAsCameModel", "latest", "I"), ("AsManyAsCameModel", "length", "I"), ("AsManyAsCameModel", "cursor", "I"), ("AsManyAsCameModel", "token", "I"), ("AsManyAsCameModel", "start", "I"), ("AsManyAsCameModel", "till", "I"), ("AsManyAsCameModel", "fault", "I"), ("AsManyAsCameModel", "faultAt", "I"), ("AsManyAsCameModel", "ways", "[J"), ("AsManyAsCameModel", "isKept", "[Z"), ("AsManyAsCameModel", "kept", "[I"), ("AsManyAsCameModel", "trace", "[I"), ("AsManyAsCameModel", "traced", "I")],
  [],
  [],
  [],
  [],
  [],
  [],
  [],
  [],
  [],
  [],
  [("java/lang/String", "value", "[B"), ("java/lang/String", "coder", "B")]] c []) j ("", "", "")
def m_T0 : u_T := fun k => match k with
  | 0 => ("AsManyAsCame", "rows", "[LAsManyAsCame$Row;", true)
  | 1 => ("AsManyAsCame", "tape", "LAsManyAsCame$Tape;", true)
  | 2 => ("AsManyAsCame", "town", "LAsManyAsCame$Town;", true)
  | 3 => ("AsManyAsCame", "draft", "LAsManyAsCame$Town;", true)
  | 4 => ("AsManyAsCame", "images", "[LAsManyAsCame$Town;", true)
  | 5 => ("AsManyAsCame", "asked", "LAsManyAsCame$Asked;", true)
  | 6 => ("AsManyAsCame", "ways", "LAsManyAsCame$Numbers;", true)
  | 7 => ("AsManyAsCame", "latestFault", "I", false)
  | _ => ("AsManyAsCame", "latestFinding", "I", false)
def m_T1 : u_T := fun k => match k with
  | 0 => ("AsManyAsCame$Asked", "bodies", "LAsManyAsCame$Numbers;", true)
  | _ => ("AsManyAsCame$Asked", "length", "I", false)
def m_T2 : u_T := fun k => match k with
  | _ => ("AsManyAsCame$Numbers", "cells", "[I", true)
def m_T3 : u_T := fun k => match k with
  | 0 => ("AsManyAsCame$Row", "items", "LAsManyAsCame$Numbers;", true)
  | 1 => ("AsManyAsCame$Row", "there", "Z", false)
  | 2 => ("AsManyAsCame$Row", "lane", "I", false)
  | _ => ("AsManyAsCame$Row", "size", "I", false)
def m_T4 : u_T := fun k => match k with
  | 0 => ("AsManyAsCame$Tape", "bytes", "LAsManyAsCame$Numbers;", true)
  | 1 => ("AsManyAsCame$Tape", "length", "I", false)
  | 2 => ("AsManyAsCame$Tape", "from", "I", false)
  | 3 => ("AsManyAsCame$Tape", "end", "I", false)
  | 4 => ("AsManyAsCame$Tape", "token", "I", false)
  | _ => ("AsManyAsCame$Tape", "fault", "I", false)
def m_T5 : u_T := fun k => match k with
  | 0 => ("AsManyAsCame$Town", "stands", "Z", false)
  | 1 => ("AsManyAsCame$Town", "law", "I", false)
  | 2 => ("AsManyAsCame$Town", "bread", "I", false)
  | 3 => ("AsManyAsCame$Town", "pay", "I", false)
  | 4 => ("AsManyAsCame$Town", "came", "I", false)
  | 5 => ("AsManyAsCame$Town", "days", "I", false)
  | 6 => ("AsManyAsCame$Town", "spent", "I", false)
  | 7 => ("AsManyAsCame$Town", "hungry", "I", false)
  | 8 => ("AsManyAsCame$Town", "numbers", "I", false)
  | 9 => ("AsManyAsCame$Town", "size", "I", false)
  | 10 => ("AsManyAsCame$Town", "kinds", "LAsManyAsCame$Numbers;", true)
  | 11 => ("AsManyAsCame$Town", "ranks", "LAsManyAsCame$Numbers;", true)
  | 12 => ("AsManyAsCame$Town", "hastes", "LAsManyAsCame$Numbers;", true)
  | 13 => ("AsManyAsCame$Town", "leftOn", "LAsManyAsCame$Numbers;", true)
  | _ => ("AsManyAsCame$Town", "list", "LAsManyAsCame$Numbers;", true)
def m_T6 : u_T := fun k => match k with
  | 0 => ("AsManyAsCameModel", "thrown", "I", false)
  | 1 => ("AsManyAsCameModel", "status", "I", false)
  | 2 => ("AsManyAsCameModel", "lane", "[I", true)
  | 3 => ("AsManyAsCameModel", "many", "[I", true)
  | 4 => ("AsManyAsCameModel", "item", "[I", true)
  | 5 => ("AsManyAsCameModel", "town", "[I", true)
  | 6 => ("AsManyAsCameModel", "fresh", "[I", true)
  | 7 => ("AsManyAsCameModel", "isThere", "Z", false)
  | 8 => ("AsManyAsCameModel", "tape", "[I", true)
  | 9 => ("AsManyAsCameModel", "taped", "I", false)
  | 10 => ("AsManyAsCameModel", "latest", "I", false)
  | 11 => ("AsManyAsCameModel", "length", "I", false)
  | 12 => ("AsManyAsCameModel", "cursor", "I", false)
  | 13 => ("AsManyAsCameModel", "token", "I", false)
  | 14 => ("AsManyAsCameModel", "start", "I", false)
  | 15 => ("AsManyAsCameModel", "till", "I", false)
  | 16 => ("AsManyAsCameModel", "fault", "I", false)
  | 17 => ("AsManyAsCameModel", "faultAt", "I", false)
  | 18 => ("AsManyAsCameModel", "ways", "[J", true)
  | 19 => ("AsManyAsCameModel", "isKept", "[Z", true)
  | 20 => ("AsManyAsCameModel", "kept", "[I", true)
  | 21 => ("AsManyAsCameModel", "trace", "[I", true)
  | _ => ("AsManyAsCameModel", "traced", "I", false)
def m_cl : List vw_C := [("AsManyAsCame", m_T0, 9), ("AsManyAsCame$Asked", m_T1, 2), ("AsManyAsCame$Numbers", m_T2, 1), ("AsManyAsCame$Row", m_T3, 4), ("AsManyAsCame$Tape", m_T4, 6), ("AsManyAsCame$Town", m_T5, 15), ("AsManyAsCameModel", m_T6, 23)]
