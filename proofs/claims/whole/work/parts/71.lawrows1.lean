set_option maxRecDepth 20000 in
theorem ggL_law_X8_init : GoodIn wsL_law wsX8_init := goodIn_r _ [8, 9, 10, 11, 12, 13, 14, 15, 16, 17, 18, 19, 20, 21, 22, 23, 24, 25, 26, 27, 28, 29, 30, 31, 32, 33, 34, 35, 36, 37, 38, 39, 40, 41, 42, 43, 44, 45, 46, 47, 48, 49, 50, 51, 52, 53, 54, 55, 56, 57, 58, 59, 60, 61, 62, 63, 64, 65, 66, 67, 68, 69, 70, 71, 72, 73, 74, 75, 76, 77, 78, 79, 80, 81, 82, 83, 84, 85, 86, 87, 88, 89, 90, 91, 92, 93, 94, 95, 96, 97, 98, 99, 100, 101, 1065, 1066, 1067, 1068, 1069, 1070, 1071, 1017, 1018, 1019, 1020, 1021, 1022, 1023, 1024, 1025, 1026, 1027, 1072, 1073, 1074, 1075, 1076, 1077, 1078, 1079, 1080, 1081, 1082, 1083, 1084, 1085, 1086, 1087, 1088, 1089, 1090, 1091, 1092, 1093, 1094, 1095, 1096, 1097, 1098, 1099, 1100, 1101, 1102, 1103, 1104, 1105, 1106, 1107, 1108] (by decide +kernel) (by decide +kernel)
set_option maxRecDepth 20000 in
theorem gL_law_X8_init : GoodIn wsL_law (wsX8_init) := ggL_law_X8_init
set_option maxRecDepth 20000 in
theorem ggL_law_X9_init : GoodIn wsL_law wsX9_init := goodIn_r _ [104, 105, 10, 11, 45, 106, 107, 108, 109, 110, 111, 112, 113, 114, 115, 116, 117, 118, 119, 120, 121, 122, 123, 124, 125, 5, 126, 127, 128, 129, 130, 131, 132, 133, 134, 135, 136, 137, 1028, 1029, 1030, 1031, 1032, 1033, 1034, 1035, 1036, 1037, 1038, 1039, 1040, 1041, 1042, 1043, 1044, 1045, 1046, 1047, 1048, 1049, 1050, 1051, 1052, 1053, 1054, 1055, 1056, 1057, 1058, 1059, 1060, 1061, 1062, 1063, 1064] (by decide +kernel) (by decide +kernel)
set_option maxRecDepth 20000 in
theorem gL_law_X9_init : GoodIn wsL_law (wsX9_init) := ggL_law_X9_init
set_option maxRecDepth 20000 in
theorem ggL_law_X8_feed : GoodIn wsL_law wsX8_feed := goodIn_r _ [141, 15, 142, 143, 2, 144, 145, 146, 147, 14, 148, 149, 51, 1017, 1018, 1019, 1020, 1021, 1022, 1023, 1024, 1025, 1026, 1027, 1065, 1066, 1067, 1068, 1069, 1070, 1071] (by decide +kernel) (by decide +kernel)
set_option maxRecDepth 20000 in
theorem gL_law_X8_feed : GoodIn wsL_law (wsV RL 13 RX8 yX8_feed wsX8_feed) := goodIn_app (goodIn_of _ (by decide +kernel)) ggL_law_X8_feed
set_option maxRecDepth 20000 in
theorem ggL_law_X9_feed : GoodIn wsL_law wsX9_feed := goodIn_r _ [153, 154, 155, 111, 156, 157, 5, 158, 1028, 1029, 1030, 1031, 1032, 1033, 1034, 1035, 1036, 1037, 1038, 1039, 1040, 1041, 1042, 1043, 1044, 1045, 1046, 1047, 1048, 1049, 1050, 1051, 1052, 1053, 1054, 1055, 1056, 1057, 1058, 1059, 1060, 1061, 1062, 1063, 1064] (by decide +kernel) (by decide +kernel)
set_option maxRecDepth 20000 in
theorem gL_law_X9_feed : GoodIn wsL_law (wsV RL 17 RX9 yX9_feed wsX9_feed) := goodIn_app (goodIn_of _ (by decide +kernel)) ggL_law_X9_feed
set_option maxRecDepth 20000 in
theorem ggL_law_X8_end : GoodIn wsL_law wsX8_end := goodIn_r _ [162, 15, 142, 143, 2, 144, 1017, 1018, 1019, 1020, 1021, 1022, 1023, 1024, 1025, 1026, 1027, 1065, 1066, 1067, 1068, 1069, 1070, 1071] (by decide +kernel) (by decide +kernel)
set_option maxRecDepth 20000 in
theorem gL_law_X8_end : GoodIn wsL_law (wsV RL 18 RX8 yX8_end wsX8_end) := goodIn_app (goodIn_of _ (by decide +kernel)) ggL_law_X8_end
set_option maxRecDepth 20000 in
theorem ggL_law_X9_end : GoodIn wsL_law wsX9_end := goodIn_r _ [166, 155, 156, 157, 5, 158, 1028, 1029, 1030, 1031, 1032, 1033, 1034, 1035, 1036, 1037, 1038, 1039, 1040, 1041, 1042, 1043, 1044, 1045, 1046, 1047, 1048, 1049, 1050, 1051, 1052, 1053, 1054, 1055, 1056, 1057, 1058, 1059, 1060, 1061, 1062, 1063, 1064] (by decide +kernel) (by decide +kernel)
set_option maxRecDepth 20000 in
theorem gL_law_X9_end : GoodIn wsL_law (wsV RL 21 RX9 yX9_end wsX9_end) := goodIn_app (goodIn_of _ (by decide +kernel)) ggL_law_X9_end
set_option maxRecDepth 20000 in
theorem ggL_law_X8_text : GoodIn wsL_law wsX8_text := goodIn_r _ [170, 19, 24, 15, 23, 36, 38, 171, 172, 173, 18, 174, 56, 175, 176, 177, 178, 179, 22, 180, 181, 182, 68, 69, 62, 183, 184, 185, 14, 186, 187, 188, 189, 190, 191, 192, 193, 194, 195, 196, 149, 51, 197, 198, 199, 200, 201, 202, 203, 204, 205, 206, 207, 208, 209, 210, 211, 212, 213, 214, 215, 216, 217, 218, 219, 220, 221, 222, 223, 224, 225, 226, 227, 228, 229, 230, 231, 232, 233, 234, 235, 236, 237, 238, 239, 240, 241, 242, 243, 244, 245, 246, 247, 248, 249, 250, 251, 252, 253, 254, 255, 256, 257, 258, 259, 260, 261, 262, 263, 264, 265, 266, 267, 268, 269, 270, 271, 272, 273, 274, 275, 276, 143, 2, 144, 277, 278, 279, 280, 281, 282, 283, 284, 285, 286, 287, 288, 289, 290, 291, 292, 293, 294, 295, 296, 63, 64, 65, 66, 67, 297, 298, 299, 300, 301, 302, 303, 304, 305, 306, 307, 308, 309, 310, 311, 312, 60, 313, 314, 315, 316, 61, 1017, 1018, 1019, 1020, 1021, 1022, 1023, 1024, 1025, 1026, 1027, 1065, 1066, 1067, 1068, 1069, 1070, 1071, 1099, 1100, 1101, 1102, 1103, 1104, 1072, 1073, 1074, 1075, 1076, 1077, 1078, 1079, 1080, 1081, 1082, 1083, 1084, 1085, 1086] (by decide +kernel) (by decide +kernel)
set_option maxRecDepth 20000 in
theorem gL_law_X8_text : GoodIn wsL_law (wsV RL 22 RX8 yX8_text wsX8_text) := goodIn_app (goodIn_of _ (by decide +kernel)) ggL_law_X8_text
set_option maxRecDepth 20000 in
theorem ggL_law_X9_text : GoodIn wsL_law wsX9_text := goodIn_r _ [320, 321, 322, 323, 131, 127, 155, 324, 123, 124, 125, 5, 126, 110, 128, 129, 130, 325, 326, 327, 328, 329, 330, 331, 332, 333, 334, 335, 336, 337, 338, 111, 156, 157, 158, 339, 340, 341, 342, 343, 344, 345, 346, 347, 348, 349, 350, 351, 352, 353, 354, 355, 356, 357, 358, 359, 360, 361, 362, 363, 364, 365, 366, 367, 368, 369, 370, 371, 372, 373, 374, 375, 376, 377, 378, 132, 133, 134, 135, 106, 136, 137, 109, 1028, 1029, 1030, 1031, 1032, 1033, 1034, 1035, 1036, 1037, 1038, 1039, 1040, 1041, 1042, 1043, 1044, 1045, 1046, 1047, 1048, 1049, 1050, 1051, 1052, 1053, 1054, 1055, 1056, 1057, 1058, 1059, 1060, 1061, 1062, 1063, 1064] (by decide +kernel) (by decide +kernel)
set_option maxRecDepth 20000 in
theorem gL_law_X9_text : GoodIn wsL_law (wsV RL 26 RX9 yX9_text wsX9_text) := goodIn_app (goodIn_of _ (by decide +kernel)) ggL_law_X9_text
set_option maxRecDepth 20000 in
theorem ggL_law_X8_fault : GoodIn wsL_law wsX8_fault := goodIn_r _ [382, 15, 1017, 1018, 1019, 1020, 1021, 1022, 1023, 1024, 1025, 1026, 1027, 1065, 1066, 1067, 1068, 1069, 1070, 1071] (by decide +kernel) (by decide +kernel)
set_option maxRecDepth 20000 in
theorem gL_law_X8_fault : GoodIn wsL_law (wsV RL 27 RX8 yX8_fault wsX8_fault) := goodIn_app (goodIn_of _ (by decide +kernel)) ggL_law_X8_fault
set_option maxRecDepth 20000 in
theorem ggL_law_X9_fault : GoodIn wsL_law wsX9_fault := goodIn_r _ [386, 321, 1028, 1029, 1030, 1031, 1032, 1033, 1034, 1035, 1036, 1037, 1038, 1039, 1040, 1041, 1042, 1043, 1044, 1045, 1046, 1047, 1048, 1049, 1050, 1051, 1052, 1053, 1054, 1055, 1056, 1057, 1058, 1059, 1060, 1061, 1062, 1063, 1064] (by decide +kernel) (by decide +kernel)
set_option maxRecDepth 20000 in
theorem gL_law_X9_fault : GoodIn wsL_law (wsV RL 30 RX9 yX9_fault wsX9_fault) := goodIn_app (goodIn_of _ (by decide +kernel)) ggL_law_X9_fault
set_option maxRecDepth 20000 in
theorem ggL_law_X8_rule : GoodIn wsL_law wsX8_rule := goodIn_r _ [390, 23, 391, 392, 393, 22, 394, 181, 395, 396, 397, 398, 61, 62, 399, 400, 401, 402, 69, 1017, 1018, 1019, 1020, 1021, 1022, 1023, 1024, 1025, 1026, 1027, 1075, 1076, 1077, 1078, 1079, 1080, 1081, 1082, 1083, 1084, 1085, 1086] (by decide +kernel) (by decide +kernel)
set_option maxRecDepth 20000 in
theorem gL_law_X8_rule : GoodIn wsL_law (wsV RL 31 RX8 yX8_rule wsX8_rule) := goodIn_app (goodIn_of _ (by decide +kernel)) ggL_law_X8_rule
set_option maxRecDepth 20000 in
theorem ggL_law_X9_rule : GoodIn wsL_law wsX9_rule := goodIn_r _ [406, 136, 137, 106, 407, 408, 409, 410, 5, 411, 107, 412, 413, 414, 415, 112, 113, 114, 115, 116, 117, 416, 417, 418, 419, 420, 421, 422, 423, 424, 425, 426, 427, 428, 429, 430, 431, 432, 433, 434, 435, 436, 437, 438, 439, 440, 441, 442, 443, 444, 445, 446, 447, 1028, 1029, 1030, 1031, 1032, 1033, 1034, 1035, 1036, 1037, 1038, 1039, 1040, 1041, 1042, 1043, 1044, 1045, 1046, 1047, 1048, 1049, 1050, 1051, 1052, 1053, 1054, 1055, 1056, 1057, 1058, 1059, 1060, 1061, 1062, 1063, 1064] (by decide +kernel) (by decide +kernel)
set_option maxRecDepth 20000 in
theorem gL_law_X9_rule : GoodIn wsL_law (wsV RL 34 RX9 yX9_rule wsX9_rule) := goodIn_app (goodIn_of _ (by decide +kernel)) ggL_law_X9_rule
set_option maxRecDepth 20000 in
theorem ggL_law_X8_mile : GoodIn wsL_law wsX8_mile := goodIn_r _ [451, 23, 452, 306, 307, 22, 308, 181, 142, 143, 2, 144, 453, 396, 397, 398, 61, 62, 454, 455, 456, 457, 395, 458, 459, 460, 461, 60, 1017, 1018, 1019, 1020, 1021, 1022, 1023, 1024, 1025, 1026, 1027, 1075, 1076, 1077, 1078, 1079, 1080, 1081, 1082, 1083, 1084, 1085, 1086] (by decide +kernel) (by decide +kernel)
set_option maxRecDepth 20000 in
theorem gL_law_X8_mile : GoodIn wsL_law (wsV RL 35 RX8 yX8_mile wsX8_mile) := goodIn_app (goodIn_of _ (by decide +kernel)) ggL_law_X8_mile
set_option maxRecDepth 20000 in
theorem ggL_law_X9_mile : GoodIn wsL_law wsX9_mile := goodIn_r _ [465, 466, 467, 468, 469, 5, 470, 136, 156, 157, 158, 408, 409, 410, 411, 107, 106, 428, 429, 430, 431, 436, 437, 438, 439, 444, 445, 446, 447, 1028, 1029, 1030, 1031, 1032, 1033, 1034, 1035, 1036, 1037, 1038, 1039, 1040, 1041, 1042, 1043, 1044, 1045, 1046, 1047, 1048, 1049, 1050, 1051, 1052, 1053, 1054, 1055, 1056, 1057, 1058, 1059, 1060, 1061, 1062, 1063, 1064] (by decide +kernel) (by decide +kernel)
set_option maxRecDepth 20000 in
theorem gL_law_X9_mile : GoodIn wsL_law (wsV RL 39 RX9 yX9_mile wsX9_mile) := goodIn_app (goodIn_of _ (by decide +kernel)) ggL_law_X9_mile
set_option maxRecDepth 20000 in
theorem ggL_law_X8_party : GoodIn wsL_law wsX8_party := goodIn_r _ [474, 23, 475, 476, 477, 22, 478, 182, 142, 143, 2, 144, 479, 294, 295, 296, 63, 64, 65, 66, 67, 1017, 1018, 1019, 1020, 1021, 1022, 1023, 1024, 1025, 1026, 1027, 1075, 1076, 1077, 1078, 1079, 1080, 1081, 1082, 1083, 1084, 1085, 1086] (by decide +kernel) (by decide +kernel)
set_option maxRecDepth 20000 in
theorem gL_law_X8_party : GoodIn wsL_law (wsV RL 40 RX8 yX8_party wsX8_party) := goodIn_app (goodIn_of _ (by decide +kernel)) ggL_law_X8_party
set_option maxRecDepth 20000 in
theorem ggL_law_X9_party : GoodIn wsL_law wsX9_party := goodIn_r _ [483, 466, 106, 484, 485, 486, 5, 487, 137, 156, 157, 158, 1028, 1029, 1030, 1031, 1032, 1033, 1034, 1035, 1036, 1037, 1038, 1039, 1040, 1041, 1042, 1043, 1044, 1045, 1046, 1047, 1048, 1049, 1050, 1051, 1052, 1053, 1054, 1055, 1056, 1057, 1058, 1059, 1060, 1061, 1062, 1063, 1064] (by decide +kernel) (by decide +kernel)
set_option maxRecDepth 20000 in
theorem gL_law_X9_party : GoodIn wsL_law (wsV RL 43 RX9 yX9_party wsX9_party) := goodIn_app (goodIn_of _ (by decide +kernel)) ggL_law_X9_party
set_option maxRecDepth 20000 in
theorem ggL_law_X8_strain : GoodIn wsL_law wsX8_strain := goodIn_r _ [491, 23, 475, 476, 477, 22, 478, 182, 452, 306, 307, 308, 181, 492, 493, 494, 495, 61, 63, 395, 396, 397, 398, 62, 1017, 1018, 1019, 1020, 1021, 1022, 1023, 1024, 1025, 1026, 1027, 1075, 1076, 1077, 1078, 1079, 1080, 1081, 1082, 1083, 1084, 1085, 1086] (by decide +kernel) (by decide +kernel)
set_option maxRecDepth 20000 in
theorem gL_law_X8_strain : GoodIn wsL_law (wsV RL 44 RX8 yX8_strain wsX8_strain) := goodIn_app (goodIn_of _ (by decide +kernel)) ggL_law_X8_strain
set_option maxRecDepth 20000 in
theorem ggL_law_X9_strain : GoodIn wsL_law wsX9_strain := goodIn_r _ [499, 484, 485, 486, 5, 487, 137, 156, 157, 158, 467, 468, 469, 470, 136, 408, 409, 410, 411, 107, 106, 432, 433, 434, 435, 436, 437, 438, 439, 428, 429, 430, 431, 416, 417, 418, 419, 1028, 1029, 1030, 1031, 1032, 1033, 1034, 1035, 1036, 1037, 1038, 1039, 1040, 1041, 1042, 1043, 1044, 1045, 1046, 1047, 1048, 1049, 1050, 1051, 1052, 1053, 1054, 1055, 1056, 1057, 1058, 1059, 1060, 1061, 1062, 1063, 1064] (by decide +kernel) (by decide +kernel)
set_option maxRecDepth 20000 in
theorem gL_law_X9_strain : GoodIn wsL_law (wsV RL 47 RX9 yX9_strain wsX9_strain) := goodIn_app (goodIn_of _ (by decide +kernel)) ggL_law_X9_strain
set_option maxRecDepth 20000 in
theorem ggL_law_X8_pave : GoodIn wsL_law wsX8_pave := goodIn_r _ [503, 23, 504, 452, 306, 307, 22, 308, 181, 142, 143, 2, 144, 458, 459, 460, 461, 60, 61, 62, 1017, 1018, 1019, 1020, 1021, 1022, 1023, 1024, 1025, 1026, 1027, 1075, 1076, 1077, 1078, 1079, 1080, 1081, 1082, 1083, 1084, 1085, 1086] (by decide +kernel) (by decide +kernel)
set_option maxRecDepth 20000 in
theorem gL_law_X8_pave : GoodIn wsL_law (wsV RL 48 RX8 yX8_pave wsX8_pave) := goodIn_app (goodIn_of _ (by decide +kernel)) ggL_law_X8_pave
set_option maxRecDepth 20000 in
theorem ggL_law_X9_pave : GoodIn wsL_law wsX9_pave := goodIn_r _ [508, 509, 156, 157, 5, 158, 510, 511, 512, 467, 468, 469, 470, 136, 513, 514, 515, 516, 106, 1028, 1029, 1030, 1031, 1032, 1033, 1034, 1035, 1036, 1037, 1038, 1039, 1040, 1041, 1042, 1043, 1044, 1045, 1046, 1047, 1048, 1049, 1050, 1051, 1052, 1053, 1054, 1055, 1056, 1057, 1058, 1059, 1060, 1061, 1062, 1063, 1064] (by decide +kernel) (by decide +kernel)
set_option maxRecDepth 20000 in
theorem gL_law_X9_pave : GoodIn wsL_law (wsV RL 52 RX9 yX9_pave wsX9_pave) := goodIn_app (goodIn_of _ (by decide +kernel)) ggL_law_X9_pave
set_option maxRecDepth 20000 in
theorem ggL_law_X8_alter : GoodIn wsL_law wsX8_alter := goodIn_r _ [520, 23, 521, 522, 475, 476, 477, 22, 478, 182, 142, 143, 2, 144, 479, 294, 295, 296, 63, 64, 65, 66, 67, 1017, 1018, 1019, 1020, 1021, 1022, 1023, 1024, 1025, 1026, 1027, 1075, 1076, 1077, 1078, 1079, 1080, 1081, 1082, 1083, 1084, 1085, 1086] (by decide +kernel) (by decide +kernel)
set_option maxRecDepth 20000 in
theorem gL_law_X8_alter : GoodIn wsL_law (wsV RL 53 RX8 yX8_alter wsX8_alter) := goodIn_app (goodIn_of _ (by decide +kernel)) ggL_law_X8_alter
set_option maxRecDepth 20000 in
theorem ggL_law_X9_alter : GoodIn wsL_law wsX9_alter := goodIn_r _ [526, 509, 527, 528, 156, 157, 5, 158, 484, 485, 486, 487, 137, 513, 514, 515, 516, 106, 1028, 1029, 1030, 1031, 1032, 1033, 1034, 1035, 1036, 1037, 1038, 1039, 1040, 1041, 1042, 1043, 1044, 1045, 1046, 1047, 1048, 1049, 1050, 1051, 1052, 1053, 1054, 1055, 1056, 1057, 1058, 1059, 1060, 1061, 1062, 1063, 1064] (by decide +kernel) (by decide +kernel)
set_option maxRecDepth 20000 in
theorem gL_law_X9_alter : GoodIn wsL_law (wsV RL 56 RX9 yX9_alter wsX9_alter) := goodIn_app (goodIn_of _ (by decide +kernel)) ggL_law_X9_alter
set_option maxRecDepth 20000 in
theorem ggL_law_X8_stand : GoodIn wsL_law wsX8_stand := goodIn_r _ [532, 23, 475, 476, 477, 22, 478, 182, 452, 306, 307, 308, 181, 1017, 1018, 1019, 1020, 1021, 1022, 1023, 1024, 1025, 1026, 1027, 1075, 1076, 1077, 1078, 1079, 1080, 1081, 1082, 1083, 1084, 1085, 1086] (by decide +kernel) (by decide +kernel)
set_option maxRecDepth 20000 in
theorem gL_law_X8_stand : GoodIn wsL_law (wsV RL 57 RX8 yX8_stand wsX8_stand) := goodIn_app (goodIn_of _ (by decide +kernel)) ggL_law_X8_stand
set_option maxRecDepth 20000 in
theorem ggL_law_X9_stand : GoodIn wsL_law wsX9_stand := goodIn_r _ [536, 484, 485, 486, 5, 487, 137, 156, 157, 158, 467, 468, 469, 470, 136, 513, 514, 515, 516, 106, 1028, 1029, 1030, 1031, 1032, 1033, 1034, 1035, 1036, 1037, 1038, 1039, 1040, 1041, 1042, 1043, 1044, 1045, 1046, 1047, 1048, 1049, 1050, 1051, 1052, 1053, 1054, 1055, 1056, 1057, 1058, 1059, 1060, 1061, 1062, 1063, 1064] (by decide +kernel) (by decide +kernel)
set_option maxRecDepth 20000 in
theorem gL_law_X9_stand : GoodIn wsL_law (wsV RL 60 RX9 yX9_stand wsX9_stand) := goodIn_app (goodIn_of _ (by decide +kernel)) ggL_law_X9_stand
set_option maxRecDepth 20000 in
theorem ggL_law_X8_set : GoodIn wsL_law wsX8_set := goodIn_r _ [540, 23, 142, 143, 2, 144, 1017, 1018, 1019, 1020, 1021, 1022, 1023, 1024, 1025, 1026, 1027, 1075, 1076, 1077, 1078, 1079, 1080, 1081, 1082, 1083, 1084, 1085, 1086] (by decide +kernel) (by decide +kernel)
set_option maxRecDepth 20000 in
theorem gL_law_X8_set : GoodIn wsL_law (wsV RL 61 RX8 yX8_set wsX8_set) := goodIn_app (goodIn_of _ (by decide +kernel)) ggL_law_X8_set
set_option maxRecDepth 20000 in
theorem ggL_law_X9_set : GoodIn wsL_law wsX9_set := goodIn_r _ [544, 466, 527, 156, 157, 5, 158, 513, 514, 515, 516, 106, 1028, 1029, 1030, 1031, 1032, 1033, 1034, 1035, 1036, 1037, 1038, 1039, 1040, 1041, 1042, 1043, 1044, 1045, 1046, 1047, 1048, 1049, 1050, 1051, 1052, 1053, 1054, 1055, 1056, 1057, 1058, 1059, 1060, 1061, 1062, 1063, 1064] (by decide +kernel) (by decide +kernel)
set_option maxRecDepth 20000 in
theorem gL_law_X9_set : GoodIn wsL_law (wsV RL 64 RX9 yX9_set wsX9_set) := goodIn_app (goodIn_of _ (by decide +kernel)) ggL_law_X9_set
