set_option maxRecDepth 20000 in
theorem ggL_law_X9_init : GoodIn wsL_law wsX9_init := goodIn_r _ [8, 9, 10, 11, 12, 13, 14, 15, 16, 17, 18, 19, 20, 21, 22, 23, 24, 25, 26, 27, 28, 29, 30, 31, 32, 33, 34, 35, 36, 37, 38, 39, 40, 41, 42, 43, 44, 45, 46, 47, 48, 49, 50, 51, 52, 53, 54, 55, 56, 57, 58, 59, 60, 61, 62, 63, 64, 65, 66, 67, 68, 69, 70, 71, 72, 73, 74, 75, 76, 77, 78, 79, 80, 81, 82, 83, 84, 85, 86, 87, 88, 89, 90, 91, 92, 93, 94, 95, 96, 97, 98, 99, 100, 101, 102, 103, 104, 105, 106, 107, 108, 109, 110, 111, 112, 113, 114, 115, 116, 117, 118, 119, 120, 121, 122, 123, 124, 125, 126, 127, 128, 129, 130, 131, 132, 133, 134, 135, 136, 137, 138, 139, 1118, 1119, 1120, 1121, 1122, 1123, 1124, 1074, 1075, 1076, 1077, 1078, 1079, 1080, 1081, 1082, 1083, 1084, 1085, 1125, 1126, 1127, 1128, 1129, 1130, 1131, 1132, 1133, 1134, 1135, 1136, 1137, 1138, 1139, 1140, 1141, 1142, 1143, 1144, 1145, 1146, 1147, 1148, 1149, 1150, 1151, 1152, 1153, 1154, 1155, 1156, 1157, 1158, 1159, 1160, 1161, 1162, 1163, 1164, 1165, 1166, 1167, 1168, 1169, 1170, 1171, 1172, 1173] rfl (by decide +kernel)
set_option maxRecDepth 20000 in
theorem gL_law_X9_init : GoodIn wsL_law (wsX9_init) := ggL_law_X9_init
set_option maxRecDepth 20000 in
theorem ggL_law_X12_init : GoodIn wsL_law wsX12_init := goodIn_r _ [142, 143, 10, 11, 144, 145, 146, 147, 148, 78, 149, 17, 150, 151, 152, 153, 154, 155, 156, 157, 158, 159, 160, 161, 162, 163, 164, 165, 166, 167, 168, 169, 170, 171, 172, 173, 174, 175, 176, 177, 178, 179, 180, 181, 182, 183, 83, 184, 185, 186, 187, 188, 189, 190, 191, 192, 193, 1174, 1175, 1176, 1177, 1178, 1179, 1180, 1181, 1182, 1183, 1184, 1185, 1186, 1187, 1188, 1189, 1086, 1087, 1088, 1089, 1090, 1091, 1092, 1093, 1094, 1095, 1096, 1097, 1098, 1099, 1100, 1101, 1102, 1103, 1104, 1105, 1106, 1107, 1108, 1109, 1110, 1111, 1112, 1113, 1114, 1115, 1116, 1117, 1190, 1191] rfl (by decide +kernel)
set_option maxRecDepth 20000 in
theorem gL_law_X12_init : GoodIn wsL_law (wsX12_init) := ggL_law_X12_init
set_option maxRecDepth 20000 in
theorem ggL_law_X9_window : GoodIn wsL_law wsX9_window := goodIn_r _ [197, 15, 27, 198, 199, 200, 201, 2, 202, 42, 203, 204, 205, 206, 207, 208, 14, 209, 210, 211, 212, 213, 214, 215, 216, 47, 48, 49, 50, 217, 218, 219, 220, 23, 31, 41, 221, 222, 223, 22, 224, 58, 62, 225, 226, 227, 57, 228, 229, 230, 231, 232, 233, 234, 235, 236, 237, 238, 239, 240, 241, 242, 243, 244, 67, 68, 69, 245, 246, 247, 248, 249, 250, 251, 252, 253, 254, 255, 256, 257, 258, 259, 61, 260, 74, 261, 84, 85, 262, 263, 264, 265, 266, 267, 268, 269, 270, 271, 272, 273, 274, 275, 276, 277, 278, 279, 280, 281, 282, 283, 284, 285, 286, 287, 288, 289, 80, 75, 76, 290, 291, 292, 293, 294, 295, 296, 297, 77, 298, 299, 300, 301, 302, 303, 304, 305, 306, 82, 307, 308, 309, 310, 81, 79, 311, 312, 313, 314, 315, 316, 317, 318, 319, 320, 321, 322, 323, 324, 325, 26, 326, 93, 327, 94, 328, 329, 96, 330, 331, 332, 333, 334, 91, 335, 336, 337, 338, 339, 340, 95, 341, 342, 343, 344, 345, 346, 347, 348, 349, 350, 351, 352, 353, 354, 355, 356, 357, 358, 359, 30, 360, 361, 362, 113, 114, 121, 363, 364, 365, 366, 110, 111, 112, 367, 368, 369, 370, 371, 372, 373, 374, 375, 376, 377, 378, 379, 1074, 1075, 1076, 1077, 1078, 1079, 1080, 1081, 1082, 1083, 1084, 1085, 1127, 1128, 1129, 1130, 1131, 1132, 1133, 1118, 1119, 1120, 1121, 1122, 1123, 1124, 1125, 1126, 1156, 1157, 1158, 1159, 1160, 1161, 1162, 1163, 1164, 1165, 1166, 1167, 1168, 1169, 1170, 1134, 1135, 1136, 1137, 1138, 1139, 1140, 1141, 1142, 1143, 1144, 1145, 1146] rfl (by decide +kernel)
set_option maxRecDepth 20000 in
theorem gL_law_X9_window : GoodIn wsL_law (wsV RL 13 RX9 yX9_window wsX9_window) := goodIn_app (goodIn_r ([.methodLink RL 13 yX9_window, .instanceMethod yX9_window, .selects RX9 yX9_window yX9_window, .initialized RX9] : List Cond) [194, 195, 196, 2] rfl (by decide +kernel)) ggL_law_X9_window
set_option maxRecDepth 20000 in
theorem ggL_law_X12_window : GoodIn wsL_law wsX12_window := goodIn_r _ [383, 384, 147, 385, 386, 387, 388, 5, 389, 159, 390, 391, 392, 393, 150, 151, 394, 395, 396, 146, 397, 398, 399, 400, 401, 402, 180, 181, 182, 183, 403, 404, 405, 406, 407, 408, 409, 410, 411, 412, 184, 185, 186, 413, 414, 415, 416, 276, 417, 418, 419, 420, 421, 422, 423, 355, 424, 425, 426, 427, 428, 429, 430, 431, 432, 187, 188, 433, 434, 435, 436, 437, 438, 439, 440, 441, 442, 443, 444, 78, 189, 445, 446, 447, 448, 449, 450, 451, 452, 453, 454, 455, 456, 457, 458, 459, 460, 461, 462, 463, 464, 465, 466, 467, 468, 469, 470, 471, 472, 473, 474, 475, 476, 477, 478, 479, 480, 481, 482, 483, 484, 485, 486, 487, 488, 489, 490, 491, 152, 153, 154, 492, 493, 1086, 1087, 1088, 1089, 1090, 1091, 1092, 1093, 1094, 1095, 1096, 1097, 1098, 1099, 1100, 1101, 1102, 1103, 1104, 1105, 1106, 1107, 1108, 1109, 1110, 1111, 1112, 1113, 1114, 1115, 1116, 1117, 1174, 1175, 1176, 1177, 1178, 1179, 1180, 1181, 1182, 1183, 1184, 1185, 1186, 1187, 1188, 1189] rfl (by decide +kernel)
set_option maxRecDepth 20000 in
theorem gL_law_X12_window : GoodIn wsL_law (wsV RL 17 RX12 yX12_window wsX12_window) := goodIn_app (goodIn_r ([.methodLink RL 17 yX12_window, .instanceMethod yX12_window, .selects RX12 yX12_window yX12_window, .initialized RX12] : List Cond) [380, 381, 382, 5] rfl (by decide +kernel)) ggL_law_X12_window
set_option maxRecDepth 20000 in
theorem ggL_law_X9_lead : GoodIn wsL_law wsX9_lead := goodIn_r _ [497, 15, 498, 499, 500, 14, 501, 210, 199, 200, 201, 2, 202, 42, 502, 503, 504, 505, 211, 506, 507, 508, 509, 212, 510, 214, 215, 216, 47, 48, 49, 50, 217, 218, 219, 220, 23, 27, 31, 41, 221, 222, 223, 22, 224, 58, 62, 225, 226, 227, 57, 228, 229, 230, 231, 232, 233, 234, 235, 236, 237, 238, 239, 240, 241, 242, 243, 244, 67, 68, 69, 245, 246, 247, 248, 249, 250, 251, 252, 253, 254, 255, 256, 257, 258, 259, 61, 260, 74, 261, 84, 85, 262, 263, 264, 265, 266, 267, 268, 269, 270, 271, 272, 273, 274, 275, 276, 277, 278, 279, 280, 281, 282, 283, 284, 285, 286, 287, 288, 289, 80, 75, 76, 290, 291, 292, 293, 294, 295, 296, 297, 77, 298, 299, 300, 301, 302, 303, 304, 305, 306, 82, 307, 308, 309, 310, 81, 79, 311, 312, 313, 314, 315, 316, 317, 318, 319, 320, 321, 322, 323, 324, 325, 26, 326, 93, 327, 94, 328, 329, 96, 330, 331, 332, 333, 334, 91, 335, 336, 337, 338, 339, 340, 95, 341, 342, 343, 344, 345, 346, 347, 348, 349, 350, 351, 352, 353, 354, 355, 356, 357, 358, 359, 30, 360, 361, 362, 113, 114, 121, 363, 364, 365, 366, 110, 111, 112, 367, 368, 369, 370, 371, 372, 373, 374, 375, 376, 377, 378, 379, 1074, 1075, 1076, 1077, 1078, 1079, 1080, 1081, 1082, 1083, 1084, 1085, 1118, 1119, 1120, 1121, 1122, 1123, 1124, 1125, 1126, 1156, 1157, 1158, 1159, 1160, 1161, 1162, 1163, 1164, 1165, 1166, 1167, 1168, 1169, 1170, 1127, 1128, 1129, 1130, 1131, 1132, 1133, 1134, 1135, 1136, 1137, 1138, 1139, 1140, 1141, 1142, 1143, 1144, 1145, 1146] rfl (by decide +kernel)
set_option maxRecDepth 20000 in
theorem gL_law_X9_lead : GoodIn wsL_law (wsV RL 18 RX9 yX9_lead wsX9_lead) := goodIn_app (goodIn_r ([.methodLink RL 18 yX9_lead, .instanceMethod yX9_lead, .selects RX9 yX9_lead yX9_lead, .initialized RX9] : List Cond) [494, 495, 496, 2] rfl (by decide +kernel)) ggL_law_X9_lead
set_option maxRecDepth 20000 in
theorem ggL_law_X12_lead : GoodIn wsL_law wsX12_lead := goodIn_r _ [514, 384, 147, 386, 387, 388, 5, 389, 159, 515, 516, 517, 518, 519, 405, 406, 146, 407, 180, 181, 182, 183, 390, 391, 392, 393, 150, 385, 151, 394, 395, 396, 397, 398, 399, 400, 401, 402, 403, 404, 408, 409, 410, 411, 412, 184, 185, 186, 413, 414, 415, 416, 276, 417, 418, 419, 420, 421, 422, 423, 355, 424, 425, 426, 427, 428, 429, 430, 431, 432, 187, 188, 433, 434, 435, 436, 437, 438, 439, 440, 441, 442, 443, 444, 78, 189, 445, 446, 447, 448, 449, 450, 451, 452, 453, 454, 455, 456, 457, 458, 459, 460, 461, 462, 463, 464, 465, 466, 467, 468, 469, 470, 471, 472, 473, 474, 475, 476, 477, 478, 479, 480, 481, 482, 483, 484, 485, 486, 487, 488, 489, 490, 491, 152, 153, 154, 492, 493, 1086, 1087, 1088, 1089, 1090, 1091, 1092, 1093, 1094, 1095, 1096, 1097, 1098, 1099, 1100, 1101, 1102, 1103, 1104, 1105, 1106, 1107, 1108, 1109, 1110, 1111, 1112, 1113, 1114, 1115, 1116, 1117, 1174, 1175, 1176, 1177, 1178, 1179, 1180, 1181, 1182, 1183, 1184, 1185, 1186, 1187, 1188, 1189] rfl (by decide +kernel)
set_option maxRecDepth 20000 in
theorem gL_law_X12_lead : GoodIn wsL_law (wsV RL 22 RX12 yX12_lead wsX12_lead) := goodIn_app (goodIn_r ([.methodLink RL 22 yX12_lead, .instanceMethod yX12_lead, .selects RX12 yX12_lead yX12_lead, .initialized RX12] : List Cond) [511, 512, 513, 5] rfl (by decide +kernel)) ggL_law_X12_lead
set_option maxRecDepth 20000 in
theorem ggL_law_X9_undo : GoodIn wsL_law wsX9_undo := goodIn_r _ [523, 15, 498, 499, 500, 14, 501, 210, 506, 507, 508, 509, 212, 199, 200, 201, 2, 202, 42, 524, 525, 526, 527, 217, 218, 219, 220, 23, 27, 31, 41, 221, 222, 223, 22, 224, 58, 62, 225, 226, 227, 57, 228, 229, 230, 231, 232, 233, 234, 235, 236, 237, 238, 239, 240, 241, 242, 243, 244, 67, 68, 69, 245, 246, 247, 248, 249, 250, 251, 252, 253, 254, 255, 256, 257, 258, 259, 61, 260, 74, 261, 84, 85, 262, 263, 264, 265, 266, 267, 268, 269, 270, 271, 272, 273, 274, 275, 276, 277, 278, 279, 280, 281, 282, 283, 284, 285, 286, 287, 288, 289, 80, 75, 76, 290, 291, 292, 293, 294, 295, 296, 297, 77, 298, 299, 300, 301, 302, 303, 304, 305, 306, 82, 307, 308, 309, 310, 81, 79, 311, 312, 313, 314, 315, 316, 317, 318, 319, 320, 321, 322, 323, 324, 325, 26, 326, 93, 327, 94, 328, 329, 96, 330, 331, 332, 333, 334, 91, 335, 336, 337, 338, 339, 340, 95, 341, 342, 343, 344, 345, 346, 347, 348, 349, 350, 351, 352, 353, 354, 355, 356, 357, 358, 359, 30, 360, 361, 362, 113, 114, 121, 363, 364, 365, 366, 110, 111, 112, 367, 368, 369, 370, 371, 372, 373, 374, 375, 376, 377, 378, 379, 1074, 1075, 1076, 1077, 1078, 1079, 1080, 1081, 1082, 1083, 1084, 1085, 1118, 1119, 1120, 1121, 1122, 1123, 1124, 1125, 1126, 1156, 1157, 1158, 1159, 1160, 1161, 1162, 1163, 1164, 1165, 1166, 1167, 1168, 1169, 1170, 1127, 1128, 1129, 1130, 1131, 1132, 1133, 1134, 1135, 1136, 1137, 1138, 1139, 1140, 1141, 1142, 1143, 1144, 1145, 1146] rfl (by decide +kernel)
set_option maxRecDepth 20000 in
theorem gL_law_X9_undo : GoodIn wsL_law (wsV RL 23 RX9 yX9_undo wsX9_undo) := goodIn_app (goodIn_r ([.methodLink RL 23 yX9_undo, .instanceMethod yX9_undo, .selects RX9 yX9_undo yX9_undo, .initialized RX9] : List Cond) [520, 521, 522, 2] rfl (by decide +kernel)) ggL_law_X9_undo
set_option maxRecDepth 20000 in
theorem ggL_law_X12_undo : GoodIn wsL_law wsX12_undo := goodIn_r _ [531, 384, 147, 386, 387, 388, 5, 389, 159, 390, 391, 392, 393, 150, 385, 151, 394, 395, 396, 146, 397, 398, 399, 400, 401, 402, 180, 181, 182, 183, 403, 404, 405, 406, 407, 408, 409, 410, 411, 412, 184, 185, 186, 413, 414, 415, 416, 276, 417, 418, 419, 420, 421, 422, 423, 355, 424, 425, 426, 427, 428, 429, 430, 431, 432, 187, 188, 433, 434, 435, 436, 437, 438, 439, 440, 441, 442, 443, 444, 78, 189, 445, 446, 447, 448, 449, 450, 451, 452, 453, 454, 455, 456, 457, 458, 459, 460, 461, 462, 463, 464, 465, 466, 467, 468, 469, 470, 471, 472, 473, 474, 475, 476, 477, 478, 479, 480, 481, 482, 483, 484, 485, 486, 487, 488, 489, 490, 491, 152, 153, 154, 492, 493, 1086, 1087, 1088, 1089, 1090, 1091, 1092, 1093, 1094, 1095, 1096, 1097, 1098, 1099, 1100, 1101, 1102, 1103, 1104, 1105, 1106, 1107, 1108, 1109, 1110, 1111, 1112, 1113, 1114, 1115, 1116, 1117, 1174, 1175, 1176, 1177, 1178, 1179, 1180, 1181, 1182, 1183, 1184, 1185, 1186, 1187, 1188, 1189] rfl (by decide +kernel)
set_option maxRecDepth 20000 in
theorem gL_law_X12_undo : GoodIn wsL_law (wsV RL 27 RX12 yX12_undo wsX12_undo) := goodIn_app (goodIn_r ([.methodLink RL 27 yX12_undo, .instanceMethod yX12_undo, .selects RX12 yX12_undo yX12_undo, .initialized RX12] : List Cond) [528, 529, 530, 5] rfl (by decide +kernel)) ggL_law_X12_undo
set_option maxRecDepth 20000 in
theorem ggL_law_X9_count : GoodIn wsL_law wsX9_count := goodIn_r _ [535, 15, 536, 537, 23, 538, 539, 540, 541, 27, 198, 41, 498, 499, 500, 14, 501, 210, 199, 200, 201, 2, 202, 42, 506, 507, 508, 509, 212, 542, 543, 544, 61, 545, 289, 79, 1074, 1075, 1076, 1077, 1078, 1079, 1080, 1081, 1082, 1083, 1084, 1085, 1118, 1119, 1120, 1121, 1122, 1123, 1124, 1125, 1126, 1156, 1157, 1158, 1159, 1160, 1161, 1162, 1163, 1164, 1165, 1166, 1167, 1168, 1169, 1170, 1127, 1128, 1129, 1130, 1131, 1132, 1133] rfl (by decide +kernel)
set_option maxRecDepth 20000 in
theorem gL_law_X9_count : GoodIn wsL_law (wsV RL 28 RX9 yX9_count wsX9_count) := goodIn_app (goodIn_r ([.methodLink RL 28 yX9_count, .instanceMethod yX9_count, .selects RX9 yX9_count yX9_count, .initialized RX9] : List Cond) [532, 533, 534, 2] rfl (by decide +kernel)) ggL_law_X9_count
set_option maxRecDepth 20000 in
theorem ggL_law_X12_count : GoodIn wsL_law wsX12_count := goodIn_r _ [549, 384, 147, 385, 492, 386, 387, 388, 5, 389, 159, 1086, 1087, 1088, 1089, 1090, 1091, 1092, 1093, 1094, 1095, 1096, 1097, 1098, 1099, 1100, 1101, 1102, 1103, 1104, 1105, 1106, 1107, 1108, 1109, 1110, 1111, 1112, 1113, 1114, 1115, 1116, 1117, 1174, 1175, 1176, 1177, 1178, 1179, 1180, 1181, 1182, 1183, 1184, 1185, 1186, 1187, 1188, 1189] rfl (by decide +kernel)
set_option maxRecDepth 20000 in
theorem gL_law_X12_count : GoodIn wsL_law (wsV RL 32 RX12 yX12_count wsX12_count) := goodIn_app (goodIn_r ([.methodLink RL 32 yX12_count, .instanceMethod yX12_count, .selects RX12 yX12_count yX12_count, .initialized RX12] : List Cond) [546, 547, 548, 5] rfl (by decide +kernel)) ggL_law_X12_count
set_option maxRecDepth 20000 in
theorem ggL_law_X9_joint : GoodIn wsL_law wsX9_joint := goodIn_r _ [553, 15, 23, 538, 554, 555, 556, 540, 498, 499, 500, 14, 501, 210, 199, 200, 201, 2, 202, 42, 557, 558, 559, 560, 539, 561, 562, 563, 57, 564, 239, 240, 565, 566, 567, 568, 569, 312, 313, 61, 314, 80, 570, 571, 572, 573, 81, 1074, 1075, 1076, 1077, 1078, 1079, 1080, 1081, 1082, 1083, 1084, 1085, 1125, 1126, 1156, 1157, 1158, 1159, 1118, 1119, 1120, 1121, 1122, 1123, 1124, 1160, 1161, 1162, 1163, 1164, 1165, 1166, 1167, 1168, 1169, 1170] rfl (by decide +kernel)
set_option maxRecDepth 20000 in
theorem gL_law_X9_joint : GoodIn wsL_law (wsV RL 33 RX9 yX9_joint wsX9_joint) := goodIn_app (goodIn_r ([.methodLink RL 33 yX9_joint, .instanceMethod yX9_joint, .selects RX9 yX9_joint yX9_joint, .initialized RX9] : List Cond) [550, 551, 552, 2] rfl (by decide +kernel)) ggL_law_X9_joint
set_option maxRecDepth 20000 in
theorem ggL_law_X12_joint : GoodIn wsL_law wsX12_joint := goodIn_r _ [577, 384, 147, 578, 579, 580, 5, 581, 386, 387, 388, 389, 159, 582, 450, 451, 146, 452, 403, 187, 188, 189, 583, 413, 414, 415, 416, 276, 417, 1086, 1087, 1088, 1089, 1090, 1091, 1092, 1093, 1094, 1095, 1096, 1097, 1098, 1099, 1100, 1101, 1102, 1103, 1104, 1105, 1106, 1107, 1108, 1109, 1110, 1111, 1112, 1113, 1114, 1115, 1116, 1117, 1174, 1175, 1176, 1177, 1178, 1179, 1180, 1181, 1182, 1183, 1184, 1185, 1186, 1187, 1188, 1189] rfl (by decide +kernel)
set_option maxRecDepth 20000 in
theorem gL_law_X12_joint : GoodIn wsL_law (wsV RL 36 RX12 yX12_joint wsX12_joint) := goodIn_app (goodIn_r ([.methodLink RL 36 yX12_joint, .instanceMethod yX12_joint, .selects RX12 yX12_joint yX12_joint, .initialized RX12] : List Cond) [574, 575, 576, 5] rfl (by decide +kernel)) ggL_law_X12_joint
set_option maxRecDepth 20000 in
theorem ggL_law_X9_piece : GoodIn wsL_law wsX9_piece := goodIn_r _ [587, 15, 23, 540, 588, 498, 499, 500, 14, 501, 210, 199, 200, 201, 2, 202, 42, 557, 558, 559, 560, 538, 539, 589, 300, 301, 61, 302, 80, 76, 1074, 1075, 1076, 1077, 1078, 1079, 1080, 1081, 1082, 1083, 1084, 1085, 1125, 1126, 1160, 1161, 1162, 1163, 1164, 1165, 1166, 1167, 1168, 1169, 1170, 1118, 1119, 1120, 1121, 1122, 1123, 1124, 1156, 1157, 1158, 1159] rfl (by decide +kernel)
set_option maxRecDepth 20000 in
theorem gL_law_X9_piece : GoodIn wsL_law (wsV RL 37 RX9 yX9_piece wsX9_piece) := goodIn_app (goodIn_r ([.methodLink RL 37 yX9_piece, .instanceMethod yX9_piece, .selects RX9 yX9_piece yX9_piece, .initialized RX9] : List Cond) [584, 585, 586, 2] rfl (by decide +kernel)) ggL_law_X9_piece
set_option maxRecDepth 20000 in
theorem ggL_law_X12_piece : GoodIn wsL_law wsX12_piece := goodIn_r _ [593, 384, 147, 578, 579, 580, 5, 581, 386, 387, 388, 389, 159, 594, 438, 439, 146, 440, 403, 187, 188, 1086, 1087, 1088, 1089, 1090, 1091, 1092, 1093, 1094, 1095, 1096, 1097, 1098, 1099, 1100, 1101, 1102, 1103, 1104, 1105, 1106, 1107, 1108, 1109, 1110, 1111, 1112, 1113, 1114, 1115, 1116, 1117, 1174, 1175, 1176, 1177, 1178, 1179, 1180, 1181, 1182, 1183, 1184, 1185, 1186, 1187, 1188, 1189] rfl (by decide +kernel)
set_option maxRecDepth 20000 in
theorem gL_law_X12_piece : GoodIn wsL_law (wsV RL 40 RX12 yX12_piece wsX12_piece) := goodIn_app (goodIn_r ([.methodLink RL 40 yX12_piece, .instanceMethod yX12_piece, .selects RX12 yX12_piece yX12_piece, .initialized RX12] : List Cond) [590, 591, 592, 5] rfl (by decide +kernel)) ggL_law_X12_piece
set_option maxRecDepth 20000 in
theorem ggL_law_X9_corner : GoodIn wsL_law wsX9_corner := goodIn_r _ [598, 15, 27, 498, 499, 500, 14, 501, 210, 199, 200, 201, 2, 202, 42, 599, 600, 601, 602, 198, 603, 368, 369, 26, 370, 96, 604, 605, 606, 607, 93, 608, 95, 1074, 1075, 1076, 1077, 1078, 1079, 1080, 1081, 1082, 1083, 1084, 1085, 1118, 1119, 1120, 1121, 1122, 1123, 1124, 1127, 1128, 1129, 1130, 1131, 1132, 1133, 1160, 1161, 1162, 1163, 1164, 1165, 1166, 1167, 1168, 1169, 1170] rfl (by decide +kernel)
set_option maxRecDepth 20000 in
theorem gL_law_X9_corner : GoodIn wsL_law (wsV RL 41 RX9 yX9_corner wsX9_corner) := goodIn_app (goodIn_r ([.methodLink RL 41 yX9_corner, .instanceMethod yX9_corner, .selects RX9 yX9_corner yX9_corner, .initialized RX9] : List Cond) [595, 596, 597, 2] rfl (by decide +kernel)) ggL_law_X9_corner
set_option maxRecDepth 20000 in
theorem ggL_law_X12_corner : GoodIn wsL_law wsX12_corner := goodIn_r _ [612, 384, 151, 613, 614, 615, 5, 616, 385, 617, 618, 619, 620, 473, 474, 475, 476, 147, 457, 458, 459, 460, 461, 462, 463, 464, 469, 470, 471, 472, 477, 478, 479, 480, 481, 482, 483, 484, 485, 486, 487, 386, 387, 388, 389, 159, 1086, 1087, 1088, 1089, 1090, 1091, 1092, 1093, 1094, 1095, 1096, 1097, 1098, 1099, 1100, 1101, 1102, 1103, 1104, 1105, 1106, 1107, 1108, 1109, 1110, 1111, 1112, 1113, 1114, 1115, 1116, 1117, 1174, 1175, 1176, 1177, 1178, 1179, 1180, 1181, 1182, 1183, 1184, 1185, 1186, 1187, 1188, 1189] rfl (by decide +kernel)
set_option maxRecDepth 20000 in
theorem gL_law_X12_corner : GoodIn wsL_law (wsV RL 44 RX12 yX12_corner wsX12_corner) := goodIn_app (goodIn_r ([.methodLink RL 44 yX12_corner, .instanceMethod yX12_corner, .selects RX12 yX12_corner yX12_corner, .initialized RX12] : List Cond) [609, 610, 611, 5] rfl (by decide +kernel)) ggL_law_X12_corner
set_option maxRecDepth 20000 in
theorem ggL_law_X9_pane : GoodIn wsL_law wsX9_pane := goodIn_r _ [624, 15, 27, 31, 625, 626, 627, 498, 499, 500, 14, 501, 210, 199, 200, 201, 2, 202, 42, 599, 600, 601, 602, 198, 603, 368, 369, 26, 370, 96, 628, 629, 630, 631, 91, 335, 632, 633, 275, 276, 277, 634, 635, 605, 606, 607, 93, 608, 95, 636, 637, 638, 639, 640, 641, 642, 643, 644, 645, 646, 647, 648, 279, 280, 649, 650, 651, 652, 653, 654, 655, 656, 657, 658, 659, 660, 661, 662, 372, 373, 374, 94, 375, 663, 664, 665, 666, 1074, 1075, 1076, 1077, 1078, 1079, 1080, 1081, 1082, 1083, 1084, 1085, 1134, 1135, 1136, 1137, 1138, 1139, 1140, 1141, 1142, 1143, 1144, 1145, 1146, 1118, 1119, 1120, 1121, 1122, 1123, 1124, 1127, 1128, 1129, 1130, 1131, 1132, 1133, 1156, 1157, 1158, 1159, 1160, 1161, 1162, 1163, 1164, 1165, 1166, 1167, 1168, 1169, 1170] rfl (by decide +kernel)
set_option maxRecDepth 20000 in
theorem gL_law_X9_pane : GoodIn wsL_law (wsV RL 45 RX9 yX9_pane wsX9_pane) := goodIn_app (goodIn_r ([.methodLink RL 45 yX9_pane, .instanceMethod yX9_pane, .selects RX9 yX9_pane yX9_pane, .initialized RX9] : List Cond) [621, 622, 623, 2] rfl (by decide +kernel)) ggL_law_X9_pane
set_option maxRecDepth 20000 in
theorem ggL_law_X12_pane : GoodIn wsL_law wsX12_pane := goodIn_r _ [670, 384, 152, 153, 154, 385, 613, 614, 615, 5, 616, 386, 387, 388, 389, 159, 617, 618, 619, 620, 151, 473, 474, 475, 476, 147, 457, 458, 459, 460, 461, 462, 463, 464, 469, 470, 471, 472, 477, 478, 479, 480, 481, 482, 483, 484, 485, 486, 487, 671, 672, 673, 674, 675, 279, 276, 280, 676, 275, 277, 677, 678, 679, 680, 681, 682, 683, 684, 685, 686, 687, 688, 150, 1086, 1087, 1088, 1089, 1090, 1091, 1092, 1093, 1094, 1095, 1096, 1097, 1098, 1099, 1100, 1101, 1102, 1103, 1104, 1105, 1106, 1107, 1108, 1109, 1110, 1111, 1112, 1113, 1114, 1115, 1116, 1117, 1174, 1175, 1176, 1177, 1178, 1179, 1180, 1181, 1182, 1183, 1184, 1185, 1186, 1187, 1188, 1189] rfl (by decide +kernel)
set_option maxRecDepth 20000 in
theorem gL_law_X12_pane : GoodIn wsL_law (wsV RL 48 RX12 yX12_pane wsX12_pane) := goodIn_app (goodIn_r ([.methodLink RL 48 yX12_pane, .instanceMethod yX12_pane, .selects RX12 yX12_pane yX12_pane, .initialized RX12] : List Cond) [667, 668, 669, 5] rfl (by decide +kernel)) ggL_law_X12_pane
set_option maxRecDepth 20000 in
theorem ggL_law_X9_area : GoodIn wsL_law wsX9_area := goodIn_r _ [692, 15, 27, 498, 499, 500, 14, 501, 210, 199, 200, 201, 2, 202, 42, 599, 600, 601, 602, 198, 693, 694, 695, 26, 696, 100, 96, 93, 608, 95, 336, 91, 335, 643, 697, 632, 698, 699, 700, 99, 701, 702, 703, 105, 704, 705, 706, 707, 708, 709, 710, 711, 712, 713, 714, 715, 716, 717, 718, 1074, 1075, 1076, 1077, 1078, 1079, 1080, 1081, 1082, 1083, 1084, 1085, 1118, 1119, 1120, 1121, 1122, 1123, 1124, 1127, 1128, 1129, 1130, 1131, 1132, 1133, 1160, 1161, 1162, 1163, 1164, 1165, 1166, 1167, 1168, 1169, 1170, 1156, 1157, 1158, 1159, 1171, 1172, 1173] rfl (by decide +kernel)
set_option maxRecDepth 20000 in
theorem gL_law_X9_area : GoodIn wsL_law (wsV RL 49 RX9 yX9_area wsX9_area) := goodIn_app (goodIn_r ([.methodLink RL 49 yX9_area, .instanceMethod yX9_area, .selects RX9 yX9_area yX9_area, .initialized RX9] : List Cond) [689, 690, 691, 2] rfl (by decide +kernel)) ggL_law_X9_area
set_option maxRecDepth 20000 in
theorem ggL_law_X12_area : GoodIn wsL_law wsX12_area := goodIn_r _ [722, 384, 163, 164, 165, 151, 147, 166, 415, 416, 276, 417, 723, 724, 725, 613, 614, 615, 5, 616, 385, 386, 387, 388, 389, 159, 726, 727, 728, 162, 729, 730, 193, 731, 457, 458, 459, 460, 461, 462, 463, 464, 732, 733, 734, 735, 736, 737, 738, 739, 740, 741, 742, 743, 744, 745, 746, 747, 748, 279, 280, 473, 474, 475, 476, 469, 470, 471, 472, 477, 478, 479, 480, 481, 482, 483, 484, 485, 486, 487, 749, 750, 751, 752, 753, 754, 755, 756, 757, 1086, 1087, 1088, 1089, 1090, 1091, 1092, 1093, 1094, 1095, 1096, 1097, 1098, 1099, 1100, 1101, 1102, 1103, 1104, 1105, 1106, 1107, 1108, 1109, 1110, 1111, 1112, 1113, 1114, 1115, 1116, 1117, 1174, 1175, 1176, 1177, 1178, 1179, 1180, 1181, 1182, 1183, 1184, 1185, 1186, 1187, 1188, 1189, 1190, 1191] rfl (by decide +kernel)
set_option maxRecDepth 20000 in
theorem gL_law_X12_area : GoodIn wsL_law (wsV RL 53 RX12 yX12_area wsX12_area) := goodIn_app (goodIn_r ([.methodLink RL 53 yX12_area, .instanceMethod yX12_area, .selects RX12 yX12_area yX12_area, .initialized RX12] : List Cond) [719, 720, 721, 5] rfl (by decide +kernel)) ggL_law_X12_area
set_option maxRecDepth 20000 in
theorem ggL_law_X9_touch : GoodIn wsL_law wsX9_touch := goodIn_r _ [761, 15, 27, 498, 499, 500, 14, 501, 210, 199, 200, 201, 2, 202, 42, 599, 600, 601, 602, 198, 663, 664, 665, 26, 666, 634, 368, 369, 370, 96, 662, 372, 373, 374, 94, 93, 375, 95, 1074, 1075, 1076, 1077, 1078, 1079, 1080, 1081, 1082, 1083, 1084, 1085, 1118, 1119, 1120, 1121, 1122, 1123, 1124, 1127, 1128, 1129, 1130, 1131, 1132, 1133, 1160, 1161, 1162, 1163, 1164, 1165, 1166, 1167, 1168, 1169, 1170] rfl (by decide +kernel)
set_option maxRecDepth 20000 in
theorem gL_law_X9_touch : GoodIn wsL_law (wsV RL 54 RX9 yX9_touch wsX9_touch) := goodIn_app (goodIn_r ([.methodLink RL 54 yX9_touch, .instanceMethod yX9_touch, .selects RX9 yX9_touch yX9_touch, .initialized RX9] : List Cond) [758, 759, 760, 2] rfl (by decide +kernel)) ggL_law_X9_touch
set_option maxRecDepth 20000 in
theorem ggL_law_X12_touch : GoodIn wsL_law wsX12_touch := goodIn_r _ [765, 384, 613, 614, 615, 5, 616, 385, 386, 387, 388, 389, 159, 685, 686, 687, 688, 147, 150, 1086, 1087, 1088, 1089, 1090, 1091, 1092, 1093, 1094, 1095, 1096, 1097, 1098, 1099, 1100, 1101, 1102, 1103, 1104, 1105, 1106, 1107, 1108, 1109, 1110, 1111, 1112, 1113, 1114, 1115, 1116, 1117, 1174, 1175, 1176, 1177, 1178, 1179, 1180, 1181, 1182, 1183, 1184, 1185, 1186, 1187, 1188, 1189] rfl (by decide +kernel)
set_option maxRecDepth 20000 in
theorem gL_law_X12_touch : GoodIn wsL_law (wsV RL 57 RX12 yX12_touch wsX12_touch) := goodIn_app (goodIn_r ([.methodLink RL 57 yX12_touch, .instanceMethod yX12_touch, .selects RX12 yX12_touch yX12_touch, .initialized RX12] : List Cond) [762, 763, 764, 5] rfl (by decide +kernel)) ggL_law_X12_touch
set_option maxRecDepth 20000 in
theorem ggL_law_X9_at : GoodIn wsL_law wsX9_at := goodIn_r _ [769, 15, 536, 537, 27, 498, 499, 500, 14, 501, 210, 199, 200, 201, 2, 202, 42, 770, 771, 772, 26, 773, 91, 93, 327, 328, 329, 774, 242, 243, 57, 244, 67, 68, 69, 775, 776, 777, 778, 608, 336, 633, 275, 276, 277, 648, 279, 280, 779, 350, 351, 352, 780, 246, 247, 248, 781, 782, 783, 784, 96, 95, 785, 786, 787, 788, 789, 790, 791, 792, 1074, 1075, 1076, 1077, 1078, 1079, 1080, 1081, 1082, 1083, 1084, 1085, 1118, 1119, 1120, 1121, 1122, 1123, 1124, 1127, 1128, 1129, 1130, 1131, 1132, 1133, 1160, 1161, 1162, 1163, 1164, 1165, 1166, 1167, 1168, 1169, 1170, 1156, 1157, 1158, 1159] rfl (by decide +kernel)
set_option maxRecDepth 20000 in
theorem gL_law_X9_at : GoodIn wsL_law (wsV RL 58 RX9 yX9_at wsX9_at) := goodIn_app (goodIn_r ([.methodLink RL 58 yX9_at, .instanceMethod yX9_at, .selects RX9 yX9_at yX9_at, .initialized RX9] : List Cond) [766, 767, 768, 2] rfl (by decide +kernel)) ggL_law_X9_at
set_option maxRecDepth 20000 in
theorem ggL_law_X12_at : GoodIn wsL_law wsX12_at := goodIn_r _ [796, 384, 147, 386, 387, 388, 5, 389, 159, 797, 798, 799, 800, 725, 469, 470, 471, 472, 477, 478, 479, 480, 801, 802, 803, 804, 151, 457, 458, 459, 460, 461, 462, 463, 464, 473, 474, 475, 476, 481, 482, 483, 484, 485, 486, 487, 1086, 1087, 1088, 1089, 1090, 1091, 1092, 1093, 1094, 1095, 1096, 1097, 1098, 1099, 1100, 1101, 1102, 1103, 1104, 1105, 1106, 1107, 1108, 1109, 1110, 1111, 1112, 1113, 1114, 1115, 1116, 1117, 1174, 1175, 1176, 1177, 1178, 1179, 1180, 1181, 1182, 1183, 1184, 1185, 1186, 1187, 1188, 1189] rfl (by decide +kernel)
set_option maxRecDepth 20000 in
theorem gL_law_X12_at : GoodIn wsL_law (wsV RL 61 RX12 yX12_at wsX12_at) := goodIn_app (goodIn_r ([.methodLink RL 61 yX12_at, .instanceMethod yX12_at, .selects RX12 yX12_at yX12_at, .initialized RX12] : List Cond) [793, 794, 795, 5] rfl (by decide +kernel)) ggL_law_X12_at
set_option maxRecDepth 20000 in
theorem ggL_law_X9_glass : GoodIn wsL_law wsX9_glass := goodIn_r _ [808, 15, 31, 498, 499, 500, 14, 501, 210, 199, 200, 201, 2, 202, 42, 599, 600, 601, 602, 27, 198, 809, 810, 811, 812, 364, 365, 30, 366, 110, 111, 112, 1074, 1075, 1076, 1077, 1078, 1079, 1080, 1081, 1082, 1083, 1084, 1085, 1118, 1119, 1120, 1121, 1122, 1123, 1124, 1127, 1128, 1129, 1130, 1131, 1132, 1133, 1134, 1135, 1136, 1137, 1138, 1139, 1140, 1141, 1142, 1143, 1144, 1145, 1146] rfl (by decide +kernel)
set_option maxRecDepth 20000 in
theorem gL_law_X9_glass : GoodIn wsL_law (wsV RL 62 RX9 yX9_glass wsX9_glass) := goodIn_app (goodIn_r ([.methodLink RL 62 yX9_glass, .instanceMethod yX9_glass, .selects RX9 yX9_glass yX9_glass, .initialized RX9] : List Cond) [805, 806, 807, 2] rfl (by decide +kernel)) ggL_law_X9_glass
set_option maxRecDepth 20000 in
theorem ggL_law_X12_glass : GoodIn wsL_law wsX12_glass := goodIn_r _ [816, 384, 152, 153, 154, 613, 614, 615, 5, 616, 385, 386, 387, 388, 389, 159, 1086, 1087, 1088, 1089, 1090, 1091, 1092, 1093, 1094, 1095, 1096, 1097, 1098, 1099, 1100, 1101, 1102, 1103, 1104, 1105, 1106, 1107, 1108, 1109, 1110, 1111, 1112, 1113, 1114, 1115, 1116, 1117] rfl (by decide +kernel)
set_option maxRecDepth 20000 in
theorem gL_law_X12_glass : GoodIn wsL_law (wsV RL 66 RX12 yX12_glass wsX12_glass) := goodIn_app (goodIn_r ([.methodLink RL 66 yX12_glass, .instanceMethod yX12_glass, .selects RX12 yX12_glass yX12_glass, .initialized RX12] : List Cond) [813, 814, 815, 5] rfl (by decide +kernel)) ggL_law_X12_glass
set_option maxRecDepth 20000 in
theorem ggL_law_X9_colours : GoodIn wsL_law wsX9_colours := goodIn_r _ [820, 15, 821, 31, 498, 499, 500, 14, 501, 210, 199, 200, 201, 2, 202, 42, 822, 823, 824, 30, 825, 362, 120, 112, 118, 826, 827, 828, 829, 117, 119, 830, 831, 832, 833, 115, 116, 834, 835, 836, 837, 111, 838, 839, 840, 841, 113, 114, 842, 843, 844, 845, 846, 847, 848, 849, 850, 1074, 1075, 1076, 1077, 1078, 1079, 1080, 1081, 1082, 1083, 1084, 1085, 1118, 1119, 1120, 1121, 1122, 1123, 1124, 1134, 1135, 1136, 1137, 1138, 1139, 1140, 1141, 1142, 1143, 1144, 1145, 1146] rfl (by decide +kernel)
set_option maxRecDepth 20000 in
theorem gL_law_X9_colours : GoodIn wsL_law (wsV RL 67 RX9 yX9_colours wsX9_colours) := goodIn_app (goodIn_r ([.methodLink RL 67 yX9_colours, .instanceMethod yX9_colours, .selects RX9 yX9_colours yX9_colours, .initialized RX9] : List Cond) [817, 818, 819, 2] rfl (by decide +kernel)) ggL_law_X9_colours
set_option maxRecDepth 20000 in
theorem ggL_law_X12_colours : GoodIn wsL_law wsX12_colours := goodIn_r _ [854, 384, 855, 171, 385, 154, 169, 386, 387, 388, 5, 389, 159, 856, 857, 858, 859, 170, 147, 150, 860, 861, 862, 863, 864, 168, 865, 866, 867, 868, 153, 1086, 1087, 1088, 1089, 1090, 1091, 1092, 1093, 1094, 1095, 1096, 1097, 1098, 1099, 1100, 1101, 1102, 1103, 1104, 1105, 1106, 1107, 1108, 1109, 1110, 1111, 1112, 1113, 1114, 1115, 1116, 1117, 1174, 1175, 1176, 1177, 1178, 1179, 1180, 1181, 1182, 1183, 1184, 1185, 1186, 1187, 1188, 1189] rfl (by decide +kernel)
set_option maxRecDepth 20000 in
theorem gL_law_X12_colours : GoodIn wsL_law (wsV RL 70 RX12 yX12_colours wsX12_colours) := goodIn_app (goodIn_r ([.methodLink RL 70 yX12_colours, .instanceMethod yX12_colours, .selects RX12 yX12_colours yX12_colours, .initialized RX12] : List Cond) [851, 852, 853, 5] rfl (by decide +kernel)) ggL_law_X12_colours
set_option maxRecDepth 20000 in
theorem ggL_law_X9_lack : GoodIn wsL_law wsX9_lack := goodIn_r _ [872, 15, 31, 498, 499, 500, 14, 501, 210, 199, 200, 201, 2, 202, 42, 873, 874, 875, 30, 876, 362, 120, 121, 826, 827, 828, 829, 117, 119, 830, 831, 832, 833, 115, 116, 834, 835, 836, 837, 111, 838, 839, 840, 841, 113, 114, 842, 843, 844, 845, 118, 846, 847, 848, 849, 850, 1074, 1075, 1076, 1077, 1078, 1079, 1080, 1081, 1082, 1083, 1084, 1085, 1118, 1119, 1120, 1121, 1122, 1123, 1124, 1134, 1135, 1136, 1137, 1138, 1139, 1140, 1141, 1142, 1143, 1144, 1145, 1146] rfl (by decide +kernel)
set_option maxRecDepth 20000 in
theorem gL_law_X9_lack : GoodIn wsL_law (wsV RL 71 RX9 yX9_lack wsX9_lack) := goodIn_app (goodIn_r ([.methodLink RL 71 yX9_lack, .instanceMethod yX9_lack, .selects RX9 yX9_lack yX9_lack, .initialized RX9] : List Cond) [869, 870, 871, 2] rfl (by decide +kernel)) ggL_law_X9_lack
set_option maxRecDepth 20000 in
theorem ggL_law_X12_lack : GoodIn wsL_law wsX12_lack := goodIn_r _ [880, 384, 171, 385, 493, 156, 386, 387, 388, 5, 389, 159, 856, 857, 858, 859, 170, 147, 150, 860, 861, 862, 863, 864, 168, 865, 866, 867, 868, 169, 153, 1086, 1087, 1088, 1089, 1090, 1091, 1092, 1093, 1094, 1095, 1096, 1097, 1098, 1099, 1100, 1101, 1102, 1103, 1104, 1105, 1106, 1107, 1108, 1109, 1110, 1111, 1112, 1113, 1114, 1115, 1116, 1117, 1174, 1175, 1176, 1177, 1178, 1179, 1180, 1181, 1182, 1183, 1184, 1185, 1186, 1187, 1188, 1189] rfl (by decide +kernel)
set_option maxRecDepth 20000 in
theorem gL_law_X12_lack : GoodIn wsL_law (wsV RL 74 RX12 yX12_lack wsX12_lack) := goodIn_app (goodIn_r ([.methodLink RL 74 yX12_lack, .instanceMethod yX12_lack, .selects RX12 yX12_lack yX12_lack, .initialized RX12] : List Cond) [877, 878, 879, 5] rfl (by decide +kernel)) ggL_law_X12_lack
set_option maxRecDepth 20000 in
theorem ggL_law_X9_bits : GoodIn wsL_law wsX9_bits := goodIn_r _ [884, 15, 31, 498, 499, 500, 14, 501, 210, 199, 200, 201, 2, 202, 42, 885, 886, 887, 30, 888, 121, 1074, 1075, 1076, 1077, 1078, 1079, 1080, 1081, 1082, 1083, 1084, 1085, 1118, 1119, 1120, 1121, 1122, 1123, 1124, 1134, 1135, 1136, 1137, 1138, 1139, 1140, 1141, 1142, 1143, 1144, 1145, 1146] rfl (by decide +kernel)
set_option maxRecDepth 20000 in
theorem gL_law_X9_bits : GoodIn wsL_law (wsV RL 75 RX9 yX9_bits wsX9_bits) := goodIn_app (goodIn_r ([.methodLink RL 75 yX9_bits, .instanceMethod yX9_bits, .selects RX9 yX9_bits yX9_bits, .initialized RX9] : List Cond) [881, 882, 883, 2] rfl (by decide +kernel)) ggL_law_X9_bits
set_option maxRecDepth 20000 in
theorem ggL_law_X12_bits : GoodIn wsL_law wsX12_bits := goodIn_r _ [892, 384, 493, 385, 156, 386, 387, 388, 5, 389, 159, 1086, 1087, 1088, 1089, 1090, 1091, 1092, 1093, 1094, 1095, 1096, 1097, 1098, 1099, 1100, 1101, 1102, 1103, 1104, 1105, 1106, 1107, 1108, 1109, 1110, 1111, 1112, 1113, 1114, 1115, 1116, 1117] rfl (by decide +kernel)
set_option maxRecDepth 20000 in
theorem gL_law_X12_bits : GoodIn wsL_law (wsV RL 78 RX12 yX12_bits wsX12_bits) := goodIn_app (goodIn_r ([.methodLink RL 78 yX12_bits, .instanceMethod yX12_bits, .selects RX12 yX12_bits yX12_bits, .initialized RX12] : List Cond) [889, 890, 891, 5] rfl (by decide +kernel)) ggL_law_X12_bits
set_option maxRecDepth 20000 in
theorem ggL_law_X9_pick : GoodIn wsL_law wsX9_pick := goodIn_r _ [896, 15, 41, 40, 498, 499, 500, 14, 501, 210, 199, 200, 201, 2, 202, 42, 599, 600, 601, 602, 27, 198, 1074, 1075, 1076, 1077, 1078, 1079, 1080, 1081, 1082, 1083, 1084, 1085, 1118, 1119, 1120, 1121, 1122, 1123, 1124, 1127, 1128, 1129, 1130, 1131, 1132, 1133] rfl (by decide +kernel)
set_option maxRecDepth 20000 in
theorem gL_law_X9_pick : GoodIn wsL_law (wsV RL 79 RX9 yX9_pick wsX9_pick) := goodIn_app (goodIn_r ([.methodLink RL 79 yX9_pick, .instanceMethod yX9_pick, .selects RX9 yX9_pick yX9_pick, .initialized RX9] : List Cond) [893, 894, 895, 2] rfl (by decide +kernel)) ggL_law_X9_pick
set_option maxRecDepth 20000 in
theorem ggL_law_X12_pick : GoodIn wsL_law wsX12_pick := goodIn_r _ [900, 384, 492, 155, 613, 614, 615, 5, 616, 385, 386, 387, 388, 389, 159, 1086, 1087, 1088, 1089, 1090, 1091, 1092, 1093, 1094, 1095, 1096, 1097, 1098, 1099, 1100, 1101, 1102, 1103, 1104, 1105, 1106, 1107, 1108, 1109, 1110, 1111, 1112, 1113, 1114, 1115, 1116, 1117] rfl (by decide +kernel)
set_option maxRecDepth 20000 in
theorem gL_law_X12_pick : GoodIn wsL_law (wsV RL 82 RX12 yX12_pick wsX12_pick) := goodIn_app (goodIn_r ([.methodLink RL 82 yX12_pick, .instanceMethod yX12_pick, .selects RX12 yX12_pick yX12_pick, .initialized RX12] : List Cond) [897, 898, 899, 5] rfl (by decide +kernel)) ggL_law_X12_pick
set_option maxRecDepth 20000 in
theorem ggL_law_X9_unpick : GoodIn wsL_law wsX9_unpick := goodIn_r _ [904, 15, 41, 498, 499, 500, 14, 501, 210, 199, 200, 201, 2, 202, 42, 1074, 1075, 1076, 1077, 1078, 1079, 1080, 1081, 1082, 1083, 1084, 1085, 1118, 1119, 1120, 1121, 1122, 1123, 1124] rfl (by decide +kernel)
set_option maxRecDepth 20000 in
theorem gL_law_X9_unpick : GoodIn wsL_law (wsV RL 83 RX9 yX9_unpick wsX9_unpick) := goodIn_app (goodIn_r ([.methodLink RL 83 yX9_unpick, .instanceMethod yX9_unpick, .selects RX9 yX9_unpick yX9_unpick, .initialized RX9] : List Cond) [901, 902, 903, 2] rfl (by decide +kernel)) ggL_law_X9_unpick
set_option maxRecDepth 20000 in
theorem ggL_law_X12_unpick : GoodIn wsL_law wsX12_unpick := goodIn_r _ [908, 384, 492, 386, 387, 388, 5, 389, 159, 1086, 1087, 1088, 1089, 1090, 1091, 1092, 1093, 1094, 1095, 1096, 1097, 1098, 1099, 1100, 1101, 1102, 1103, 1104, 1105, 1106, 1107, 1108, 1109, 1110, 1111, 1112, 1113, 1114, 1115, 1116, 1117] rfl (by decide +kernel)
set_option maxRecDepth 20000 in
theorem gL_law_X12_unpick : GoodIn wsL_law (wsV RL 86 RX12 yX12_unpick wsX12_unpick) := goodIn_app (goodIn_r ([.methodLink RL 86 yX12_unpick, .instanceMethod yX12_unpick, .selects RX12 yX12_unpick yX12_unpick, .initialized RX12] : List Cond) [905, 906, 907, 5] rfl (by decide +kernel)) ggL_law_X12_unpick
set_option maxRecDepth 20000 in
theorem ggL_law_X9_sheets : GoodIn wsL_law wsX9_sheets := goodIn_r _ [912, 15, 39, 498, 499, 500, 14, 501, 210, 199, 200, 201, 2, 202, 42, 203, 204, 205, 913, 914, 915, 916, 41, 40, 31, 625, 27, 917, 918, 919, 38, 920, 921, 644, 645, 646, 26, 647, 91, 335, 632, 648, 279, 276, 280, 634, 368, 369, 370, 96, 635, 605, 606, 607, 93, 608, 95, 649, 650, 651, 652, 629, 630, 631, 633, 275, 277, 636, 637, 638, 653, 654, 655, 656, 643, 657, 640, 641, 642, 922, 923, 924, 925, 135, 136, 137, 926, 927, 928, 929, 138, 139, 930, 931, 932, 933, 934, 935, 936, 937, 938, 939, 940, 941, 942, 943, 944, 945, 946, 947, 1074, 1075, 1076, 1077, 1078, 1079, 1080, 1081, 1082, 1083, 1084, 1085, 1118, 1119, 1120, 1121, 1122, 1123, 1124, 1134, 1135, 1136, 1137, 1138, 1139, 1140, 1141, 1142, 1143, 1144, 1145, 1146, 1150, 1151, 1152, 1153, 1154, 1155, 1127, 1128, 1129, 1130, 1131, 1132, 1133, 1156, 1157, 1158, 1159, 1160, 1161, 1162, 1163, 1164, 1165, 1166, 1167, 1168, 1169, 1170] rfl (by decide +kernel)
set_option maxRecDepth 20000 in
theorem gL_law_X9_sheets : GoodIn wsL_law (wsV RL 87 RX9 yX9_sheets wsX9_sheets) := goodIn_app (goodIn_r ([.methodLink RL 87 yX9_sheets, .instanceMethod yX9_sheets, .selects RX9 yX9_sheets yX9_sheets, .initialized RX9] : List Cond) [909, 910, 911, 2] rfl (by decide +kernel)) ggL_law_X9_sheets
set_option maxRecDepth 20000 in
theorem ggL_law_X12_sheets : GoodIn wsL_law wsX12_sheets := goodIn_r _ [951, 384, 492, 173, 155, 174, 175, 152, 172, 17, 676, 275, 276, 277, 386, 387, 388, 5, 389, 159, 677, 678, 679, 680, 671, 672, 673, 674, 151, 147, 675, 279, 280, 457, 458, 459, 460, 473, 474, 475, 476, 461, 462, 463, 464, 469, 470, 471, 472, 477, 478, 479, 480, 481, 482, 483, 484, 485, 486, 487, 681, 682, 683, 684, 952, 953, 954, 955, 956, 957, 958, 959, 960, 961, 962, 1086, 1087, 1088, 1089, 1090, 1091, 1092, 1093, 1094, 1095, 1096, 1097, 1098, 1099, 1100, 1101, 1102, 1103, 1104, 1105, 1106, 1107, 1108, 1109, 1110, 1111, 1112, 1113, 1114, 1115, 1116, 1117, 1174, 1175, 1176, 1177, 1178, 1179, 1180, 1181, 1182, 1183, 1184, 1185, 1186, 1187, 1188, 1189] rfl (by decide +kernel)
set_option maxRecDepth 20000 in
theorem gL_law_X12_sheets : GoodIn wsL_law (wsV RL 91 RX12 yX12_sheets wsX12_sheets) := goodIn_app (goodIn_r ([.methodLink RL 91 yX12_sheets, .instanceMethod yX12_sheets, .selects RX12 yX12_sheets yX12_sheets, .initialized RX12] : List Cond) [948, 949, 950, 5] rfl (by decide +kernel)) ggL_law_X12_sheets
set_option maxRecDepth 20000 in
theorem ggL_law_X9_keep : GoodIn wsL_law wsX9_keep := goodIn_r _ [966, 15, 16, 498, 499, 500, 14, 501, 210, 199, 200, 201, 2, 202, 42, 967, 968, 969, 970, 971, 972, 973, 211, 212, 47, 974, 975, 976, 977, 48, 49, 50, 1074, 1075, 1076, 1077, 1078, 1079, 1080, 1081, 1082, 1083, 1084, 1085, 1118, 1119, 1120, 1121, 1122, 1123, 1124] rfl (by decide +kernel)
set_option maxRecDepth 20000 in
theorem gL_law_X9_keep : GoodIn wsL_law (wsV RL 92 RX9 yX9_keep wsX9_keep) := goodIn_app (goodIn_r ([.methodLink RL 92 yX9_keep, .instanceMethod yX9_keep, .selects RX9 yX9_keep yX9_keep, .initialized RX9] : List Cond) [963, 964, 965, 2] rfl (by decide +kernel)) ggL_law_X9_keep
set_option maxRecDepth 20000 in
theorem ggL_law_X12_keep : GoodIn wsL_law wsX12_keep := goodIn_r _ [981, 384, 148, 147, 149, 982, 983, 5, 984, 386, 387, 388, 389, 159, 985, 986, 987, 146, 988, 399, 400, 398, 180, 181, 182, 183, 404, 405, 406, 407, 1086, 1087, 1088, 1089, 1090, 1091, 1092, 1093, 1094, 1095, 1096, 1097, 1098, 1099, 1100, 1101, 1102, 1103, 1104, 1105, 1106, 1107, 1108, 1109, 1110, 1111, 1112, 1113, 1114, 1115, 1116, 1117, 1174, 1175, 1176, 1177, 1178, 1179, 1180, 1181, 1182, 1183, 1184, 1185, 1186, 1187, 1188, 1189] rfl (by decide +kernel)
set_option maxRecDepth 20000 in
theorem gL_law_X12_keep : GoodIn wsL_law (wsV RL 95 RX12 yX12_keep wsX12_keep) := goodIn_app (goodIn_r ([.methodLink RL 95 yX12_keep, .instanceMethod yX12_keep, .selects RX12 yX12_keep yX12_keep, .initialized RX12] : List Cond) [978, 979, 980, 5] rfl (by decide +kernel)) ggL_law_X12_keep
set_option maxRecDepth 20000 in
theorem ggL_law_X9_back : GoodIn wsL_law wsX9_back := goodIn_r _ [992, 16, 15, 27, 198, 967, 968, 2, 969, 199, 200, 201, 202, 42, 498, 499, 500, 14, 501, 210, 970, 971, 972, 973, 211, 212, 47, 974, 975, 976, 977, 48, 49, 50, 217, 218, 219, 220, 23, 31, 41, 221, 222, 223, 22, 224, 58, 62, 225, 226, 227, 57, 228, 229, 230, 231, 232, 233, 234, 235, 236, 237, 238, 239, 240, 241, 242, 243, 244, 67, 68, 69, 245, 246, 247, 248, 249, 250, 251, 252, 253, 254, 255, 256, 257, 258, 259, 61, 260, 74, 261, 84, 85, 262, 263, 264, 265, 266, 267, 268, 269, 270, 271, 272, 273, 274, 275, 276, 277, 278, 279, 280, 281, 282, 283, 284, 285, 286, 287, 288, 289, 80, 75, 76, 290, 291, 292, 293, 294, 295, 296, 297, 77, 298, 299, 300, 301, 302, 303, 304, 305, 306, 82, 307, 308, 309, 310, 81, 79, 311, 312, 313, 314, 315, 316, 317, 318, 319, 320, 321, 322, 323, 324, 325, 26, 326, 93, 327, 94, 328, 329, 96, 330, 331, 332, 333, 334, 91, 335, 336, 337, 338, 339, 340, 95, 341, 342, 343, 344, 345, 346, 347, 348, 349, 350, 351, 352, 353, 354, 355, 356, 357, 358, 359, 30, 360, 361, 362, 113, 114, 121, 363, 364, 365, 366, 110, 111, 112, 367, 368, 369, 370, 371, 372, 373, 374, 375, 376, 377, 378, 379, 1074, 1075, 1076, 1077, 1078, 1079, 1080, 1081, 1082, 1083, 1084, 1085, 1127, 1128, 1129, 1130, 1131, 1132, 1133, 1118, 1119, 1120, 1121, 1122, 1123, 1124, 1125, 1126, 1156, 1157, 1158, 1159, 1160, 1161, 1162, 1163, 1164, 1165, 1166, 1167, 1168, 1169, 1170, 1134, 1135, 1136, 1137, 1138, 1139, 1140, 1141, 1142, 1143, 1144, 1145, 1146] rfl (by decide +kernel)
set_option maxRecDepth 20000 in
theorem gL_law_X9_back : GoodIn wsL_law (wsV RL 96 RX9 yX9_back wsX9_back) := goodIn_app (goodIn_r ([.methodLink RL 96 yX9_back, .instanceMethod yX9_back, .selects RX9 yX9_back yX9_back, .initialized RX9] : List Cond) [989, 990, 991, 2] rfl (by decide +kernel)) ggL_law_X9_back
set_option maxRecDepth 20000 in
theorem ggL_law_X12_back : GoodIn wsL_law wsX12_back := goodIn_r _ [996, 149, 384, 147, 148, 385, 982, 983, 5, 984, 386, 387, 388, 389, 159, 985, 986, 987, 146, 988, 399, 400, 398, 180, 181, 182, 183, 404, 405, 406, 407, 390, 391, 392, 393, 150, 151, 394, 395, 396, 397, 401, 402, 403, 408, 409, 410, 411, 412, 184, 185, 186, 413, 414, 415, 416, 276, 417, 418, 419, 420, 421, 422, 423, 355, 424, 425, 426, 427, 428, 429, 430, 431, 432, 187, 188, 433, 434, 435, 436, 437, 438, 439, 440, 441, 442, 443, 444, 78, 189, 445, 446, 447, 448, 449, 450, 451, 452, 453, 454, 455, 456, 457, 458, 459, 460, 461, 462, 463, 464, 465, 466, 467, 468, 469, 470, 471, 472, 473, 474, 475, 476, 477, 478, 479, 480, 481, 482, 483, 484, 485, 486, 487, 488, 489, 490, 491, 152, 153, 154, 492, 493, 1086, 1087, 1088, 1089, 1090, 1091, 1092, 1093, 1094, 1095, 1096, 1097, 1098, 1099, 1100, 1101, 1102, 1103, 1104, 1105, 1106, 1107, 1108, 1109, 1110, 1111, 1112, 1113, 1114, 1115, 1116, 1117, 1174, 1175, 1176, 1177, 1178, 1179, 1180, 1181, 1182, 1183, 1184, 1185, 1186, 1187, 1188, 1189] rfl (by decide +kernel)
set_option maxRecDepth 20000 in
theorem gL_law_X12_back : GoodIn wsL_law (wsV RL 99 RX12 yX12_back wsX12_back) := goodIn_app (goodIn_r ([.methodLink RL 99 yX12_back, .instanceMethod yX12_back, .selects RX12 yX12_back yX12_back, .initialized RX12] : List Cond) [993, 994, 995, 5] rfl (by decide +kernel)) ggL_law_X12_back
set_option maxRecDepth 20000 in
theorem ggL_law_X9_alike : GoodIn wsL_law wsX9_alike := goodIn_r _ [1000, 15, 16, 35, 967, 968, 2, 969, 199, 200, 201, 202, 42, 498, 499, 500, 14, 501, 210, 1001, 1002, 1003, 34, 1004, 128, 1005, 1006, 1007, 222, 223, 22, 224, 58, 62, 225, 226, 227, 57, 228, 229, 230, 231, 232, 233, 234, 235, 236, 237, 238, 239, 240, 241, 242, 243, 244, 67, 68, 69, 245, 246, 247, 248, 249, 250, 251, 252, 253, 254, 255, 256, 257, 258, 259, 61, 260, 74, 261, 84, 85, 262, 263, 264, 265, 266, 267, 268, 269, 270, 271, 272, 273, 274, 275, 276, 277, 278, 279, 280, 281, 282, 283, 284, 285, 286, 287, 288, 289, 80, 75, 76, 290, 291, 292, 293, 294, 295, 296, 297, 77, 298, 299, 300, 301, 302, 303, 304, 305, 306, 82, 307, 308, 309, 310, 81, 79, 311, 312, 313, 314, 315, 316, 317, 318, 319, 320, 321, 322, 1008, 1009, 1010, 1011, 126, 1012, 1013, 1014, 1015, 1016, 1017, 1018, 1019, 129, 1020, 1021, 1022, 1023, 1024, 1025, 1026, 1027, 1028, 1029, 1030, 1031, 1032, 1033, 1034, 1035, 1036, 1037, 1074, 1075, 1076, 1077, 1078, 1079, 1080, 1081, 1082, 1083, 1084, 1085, 1118, 1119, 1120, 1121, 1122, 1123, 1124, 1147, 1148, 1149, 1125, 1126, 1156, 1157, 1158, 1159, 1160, 1161, 1162, 1163, 1164, 1165, 1166, 1167, 1168, 1169, 1170] rfl (by decide +kernel)
set_option maxRecDepth 20000 in
theorem gL_law_X9_alike : GoodIn wsL_law (wsV RL 100 RX9 yX9_alike wsX9_alike) := goodIn_app (goodIn_r ([.methodLink RL 100 yX9_alike, .instanceMethod yX9_alike, .selects RX9 yX9_alike yX9_alike, .initialized RX9] : List Cond) [997, 998, 999, 2] rfl (by decide +kernel)) ggL_law_X9_alike
set_option maxRecDepth 20000 in
theorem ggL_law_X12_alike : GoodIn wsL_law wsX12_alike := goodIn_r _ [1041, 384, 149, 148, 982, 983, 5, 984, 386, 387, 388, 389, 159, 394, 395, 396, 146, 397, 398, 399, 400, 401, 402, 180, 181, 182, 183, 403, 404, 405, 406, 407, 408, 409, 410, 411, 412, 184, 185, 186, 413, 414, 415, 416, 276, 417, 418, 419, 420, 421, 422, 423, 355, 424, 425, 426, 427, 428, 429, 430, 431, 432, 187, 188, 433, 434, 435, 436, 437, 438, 439, 440, 441, 442, 443, 444, 78, 189, 445, 446, 447, 448, 449, 450, 451, 452, 1042, 1043, 1044, 1045, 147, 176, 1046, 1047, 1048, 1049, 594, 1086, 1087, 1088, 1089, 1090, 1091, 1092, 1093, 1094, 1095, 1096, 1097, 1098, 1099, 1100, 1101, 1102, 1103, 1104, 1105, 1106, 1107, 1108, 1109, 1110, 1111, 1112, 1113, 1114, 1115, 1116, 1117, 1174, 1175, 1176, 1177, 1178, 1179, 1180, 1181, 1182, 1183, 1184, 1185, 1186, 1187, 1188, 1189] rfl (by decide +kernel)
set_option maxRecDepth 20000 in
theorem gL_law_X12_alike : GoodIn wsL_law (wsV RL 103 RX12 yX12_alike wsX12_alike) := goodIn_app (goodIn_r ([.methodLink RL 103 yX12_alike, .instanceMethod yX12_alike, .selects RX12 yX12_alike yX12_alike, .initialized RX12] : List Cond) [1038, 1039, 1040, 5] rfl (by decide +kernel)) ggL_law_X12_alike
set_option maxRecDepth 20000 in
theorem ggL_law_X9_rack : GoodIn wsL_law wsX9_rack := goodIn_r _ [1053, 18, 15, 31, 625, 19, 626, 967, 968, 2, 969, 199, 200, 201, 202, 42, 498, 499, 500, 14, 501, 210, 599, 600, 601, 602, 27, 198, 1074, 1075, 1076, 1077, 1078, 1079, 1080, 1081, 1082, 1083, 1084, 1085, 1134, 1135, 1136, 1137, 1138, 1139, 1140, 1141, 1142, 1143, 1144, 1145, 1146, 1118, 1119, 1120, 1121, 1122, 1123, 1124, 1127, 1128, 1129, 1130, 1131, 1132, 1133] rfl (by decide +kernel)
set_option maxRecDepth 20000 in
theorem gL_law_X9_rack : GoodIn wsL_law (wsV RL 104 RX9 yX9_rack wsX9_rack) := goodIn_app (goodIn_r ([.methodLink RL 104 yX9_rack, .instanceMethod yX9_rack, .selects RX9 yX9_rack yX9_rack, .initialized RX9] : List Cond) [1050, 1051, 1052, 2] rfl (by decide +kernel)) ggL_law_X9_rack
set_option maxRecDepth 20000 in
theorem ggL_law_X12_rack : GoodIn wsL_law wsX12_rack := goodIn_r _ [1057, 157, 384, 152, 158, 153, 982, 983, 5, 984, 386, 387, 388, 389, 159, 613, 614, 615, 616, 385, 1086, 1087, 1088, 1089, 1090, 1091, 1092, 1093, 1094, 1095, 1096, 1097, 1098, 1099, 1100, 1101, 1102, 1103, 1104, 1105, 1106, 1107, 1108, 1109, 1110, 1111, 1112, 1113, 1114, 1115, 1116, 1117] rfl (by decide +kernel)
set_option maxRecDepth 20000 in
theorem gL_law_X12_rack : GoodIn wsL_law (wsV RL 107 RX12 yX12_rack wsX12_rack) := goodIn_app (goodIn_r ([.methodLink RL 107 yX12_rack, .instanceMethod yX12_rack, .selects RX12 yX12_rack yX12_rack, .initialized RX12] : List Cond) [1054, 1055, 1056, 5] rfl (by decide +kernel)) ggL_law_X12_rack
set_option maxRecDepth 20000 in
theorem ggL_law_X9_as : GoodIn wsL_law wsX9_as := goodIn_r _ [1061, 18, 19, 967, 968, 2, 969, 809, 810, 811, 199, 200, 201, 202, 42, 1074, 1075, 1076, 1077, 1078, 1079, 1080, 1081, 1082, 1083, 1084, 1085] rfl (by decide +kernel)
set_option maxRecDepth 20000 in
theorem gL_law_X9_as : GoodIn wsL_law (wsV RL 108 RX9 yX9_as wsX9_as) := goodIn_app (goodIn_r ([.methodLink RL 108 yX9_as, .instanceMethod yX9_as, .selects RX9 yX9_as yX9_as, .initialized RX9] : List Cond) [1058, 1059, 1060, 2] rfl (by decide +kernel)) ggL_law_X9_as
set_option maxRecDepth 20000 in
theorem ggL_law_X12_as : GoodIn wsL_law wsX12_as := goodIn_r _ [1065, 157, 158, 982, 983, 5, 984, 386, 387, 388, 389, 159, 1086, 1087, 1088, 1089, 1090, 1091, 1092, 1093, 1094, 1095, 1096, 1097, 1098, 1099, 1100, 1101, 1102, 1103, 1104, 1105, 1106, 1107, 1108, 1109, 1110, 1111, 1112, 1113, 1114, 1115, 1116, 1117] rfl (by decide +kernel)
set_option maxRecDepth 20000 in
theorem gL_law_X12_as : GoodIn wsL_law (wsV RL 111 RX12 yX12_as wsX12_as) := goodIn_app (goodIn_r ([.methodLink RL 111 yX12_as, .instanceMethod yX12_as, .selects RX12 yX12_as yX12_as, .initialized RX12] : List Cond) [1062, 1063, 1064, 5] rfl (by decide +kernel)) ggL_law_X12_as
set_option maxRecDepth 20000 in
theorem ggL_law_X9_found : GoodIn wsL_law wsX9_found := goodIn_r _ [1069, 42, 199, 200, 201, 2, 202, 1074, 1075, 1076, 1077, 1078, 1079, 1080, 1081, 1082, 1083, 1084, 1085] rfl (by decide +kernel)
set_option maxRecDepth 20000 in
theorem gL_law_X9_found : GoodIn wsL_law (wsV RL 112 RX9 yX9_found wsX9_found) := goodIn_app (goodIn_r ([.methodLink RL 112 yX9_found, .instanceMethod yX9_found, .selects RX9 yX9_found yX9_found, .initialized RX9] : List Cond) [1066, 1067, 1068, 2] rfl (by decide +kernel)) ggL_law_X9_found
set_option maxRecDepth 20000 in
theorem ggL_law_X12_found : GoodIn wsL_law wsX12_found := goodIn_r _ [1073, 159, 386, 387, 388, 5, 389, 1086, 1087, 1088, 1089, 1090, 1091, 1092, 1093, 1094, 1095, 1096, 1097, 1098, 1099, 1100, 1101, 1102, 1103, 1104, 1105, 1106, 1107, 1108, 1109, 1110, 1111, 1112, 1113, 1114, 1115, 1116, 1117] rfl (by decide +kernel)
set_option maxRecDepth 20000 in
theorem gL_law_X12_found : GoodIn wsL_law (wsV RL 115 RX12 yX12_found wsX12_found) := goodIn_app (goodIn_r ([.methodLink RL 115 yX12_found, .instanceMethod yX12_found, .selects RX12 yX12_found yX12_found, .initialized RX12] : List Cond) [1070, 1071, 1072, 5] rfl (by decide +kernel)) ggL_law_X12_found
theorem dL_law_0 : decode cL_law 0 = .ok (.new 7, 3) := by decide +kernel
theorem dL_law_3 : decode cL_law 3 = .ok (.dup, 1) := by decide +kernel
theorem dL_law_4 : decode cL_law 4 = .ok (.invokespecial 9, 3) := by decide +kernel
theorem dL_law_7 : decode cL_law 7 = .ok (.astore_n 1, 1) := by decide +kernel
theorem dL_law_8 : decode cL_law 8 = .ok (.new 10, 3) := by decide +kernel
theorem dL_law_11 : decode cL_law 11 = .ok (.dup, 1) := by decide +kernel
theorem dL_law_12 : decode cL_law 12 = .ok (.invokespecial 12, 3) := by decide +kernel
theorem dL_law_15 : decode cL_law 15 = .ok (.astore_n 2, 1) := by decide +kernel
theorem dL_law_16 : decode cL_law 16 = .ok (.iconst 0, 1) := by decide +kernel
theorem dL_law_17 : decode cL_law 17 = .ok (.istore_n 3, 1) := by decide +kernel
theorem dL_law_18 : decode cL_law 18 = .ok (.iload_n 3, 1) := by decide +kernel
theorem dL_law_19 : decode cL_law 19 = .ok (.aload_n 0, 1) := by decide +kernel
theorem dL_law_20 : decode cL_law 20 = .ok (.arraylength, 1) := by decide +kernel
theorem dL_law_21 : decode cL_law 21 = .ok (.iconst 5, 1) := by decide +kernel
theorem dL_law_22 : decode cL_law 22 = .ok (.isub, 1) := by decide +kernel
theorem dL_law_23 : decode cL_law 23 = .ok (.if_icmp .gt 836, 3) := by decide +kernel
theorem dL_law_26 : decode cL_law 26 = .ok (.aload_n 0, 1) := by decide +kernel
theorem dL_law_27 : decode cL_law 27 = .ok (.iload_n 3, 1) := by decide +kernel
theorem dL_law_28 : decode cL_law 28 = .ok (.iaload, 1) := by decide +kernel
theorem dL_law_29 : decode cL_law 29 = .ok (.bipush 31, 2) := by decide +kernel
theorem dL_law_31 : decode cL_law 31 = .ok (.iand, 1) := by decide +kernel
theorem dL_law_32 : decode cL_law 32 = .ok (.tableswitch 821 0 23 #[112, 145, 198, 211, 234, 267, 300, 333, 366, 390, 423, 456, 499, 522, 545, 568, 591, 604, 663, 686, 709, 732, 765, 798], 112) := by decide +kernel
theorem dL_law_144 : decode cL_law 144 = .ok (.aload_n 1, 1) := by decide +kernel
theorem dL_law_145 : decode cL_law 145 = .ok (.aload_n 0, 1) := by decide +kernel
theorem dL_law_146 : decode cL_law 146 = .ok (.iload_n 3, 1) := by decide +kernel
theorem dL_law_147 : decode cL_law 147 = .ok (.iconst 1, 1) := by decide +kernel
theorem dL_law_148 : decode cL_law 148 = .ok (.iadd, 1) := by decide +kernel
theorem dL_law_149 : decode cL_law 149 = .ok (.iaload, 1) := by decide +kernel
theorem dL_law_150 : decode cL_law 150 = .ok (.aload_n 0, 1) := by decide +kernel
theorem dL_law_151 : decode cL_law 151 = .ok (.iload_n 3, 1) := by decide +kernel
theorem dL_law_152 : decode cL_law 152 = .ok (.iconst 2, 1) := by decide +kernel
theorem dL_law_153 : decode cL_law 153 = .ok (.iadd, 1) := by decide +kernel
theorem dL_law_154 : decode cL_law 154 = .ok (.iaload, 1) := by decide +kernel
theorem dL_law_155 : decode cL_law 155 = .ok (.invokevirtual 13, 3) := by decide +kernel
theorem dL_law_158 : decode cL_law 158 = .ok (.aload_n 2, 1) := by decide +kernel
theorem dL_law_159 : decode cL_law 159 = .ok (.aload_n 0, 1) := by decide +kernel
theorem dL_law_160 : decode cL_law 160 = .ok (.iload_n 3, 1) := by decide +kernel
theorem dL_law_161 : decode cL_law 161 = .ok (.iconst 1, 1) := by decide +kernel
theorem dL_law_162 : decode cL_law 162 = .ok (.iadd, 1) := by decide +kernel
theorem dL_law_163 : decode cL_law 163 = .ok (.iaload, 1) := by decide +kernel
theorem dL_law_164 : decode cL_law 164 = .ok (.aload_n 0, 1) := by decide +kernel
theorem dL_law_165 : decode cL_law 165 = .ok (.iload_n 3, 1) := by decide +kernel
theorem dL_law_166 : decode cL_law 166 = .ok (.iconst 2, 1) := by decide +kernel
theorem dL_law_167 : decode cL_law 167 = .ok (.iadd, 1) := by decide +kernel
theorem dL_law_168 : decode cL_law 168 = .ok (.iaload, 1) := by decide +kernel
theorem dL_law_169 : decode cL_law 169 = .ok (.invokevirtual 17, 3) := by decide +kernel
theorem dL_law_172 : decode cL_law 172 = .ok (.if_icmp .eq 681, 3) := by decide +kernel
theorem dL_law_175 : decode cL_law 175 = .ok (.iconst 0, 1) := by decide +kernel
theorem dL_law_176 : decode cL_law 176 = .ok (.ireturn, 1) := by decide +kernel
theorem dL_law_177 : decode cL_law 177 = .ok (.aload_n 1, 1) := by decide +kernel
theorem dL_law_178 : decode cL_law 178 = .ok (.aload_n 0, 1) := by decide +kernel
theorem dL_law_179 : decode cL_law 179 = .ok (.iload_n 3, 1) := by decide +kernel
theorem dL_law_180 : decode cL_law 180 = .ok (.iconst 1, 1) := by decide +kernel
theorem dL_law_181 : decode cL_law 181 = .ok (.iadd, 1) := by decide +kernel
theorem dL_law_182 : decode cL_law 182 = .ok (.iaload, 1) := by decide +kernel
theorem dL_law_183 : decode cL_law 183 = .ok (.aload_n 0, 1) := by decide +kernel
theorem dL_law_184 : decode cL_law 184 = .ok (.iload_n 3, 1) := by decide +kernel
theorem dL_law_185 : decode cL_law 185 = .ok (.iconst 2, 1) := by decide +kernel
theorem dL_law_186 : decode cL_law 186 = .ok (.iadd, 1) := by decide +kernel
theorem dL_law_187 : decode cL_law 187 = .ok (.iaload, 1) := by decide +kernel
theorem dL_law_188 : decode cL_law 188 = .ok (.aload_n 0, 1) := by decide +kernel
theorem dL_law_189 : decode cL_law 189 = .ok (.iload_n 3, 1) := by decide +kernel
theorem dL_law_190 : decode cL_law 190 = .ok (.iconst 3, 1) := by decide +kernel
theorem dL_law_191 : decode cL_law 191 = .ok (.iadd, 1) := by decide +kernel
theorem dL_law_192 : decode cL_law 192 = .ok (.iaload, 1) := by decide +kernel
theorem dL_law_193 : decode cL_law 193 = .ok (.aload_n 0, 1) := by decide +kernel
theorem dL_law_194 : decode cL_law 194 = .ok (.iload_n 3, 1) := by decide +kernel
theorem dL_law_195 : decode cL_law 195 = .ok (.iconst 4, 1) := by decide +kernel
theorem dL_law_196 : decode cL_law 196 = .ok (.iadd, 1) := by decide +kernel
theorem dL_law_197 : decode cL_law 197 = .ok (.iaload, 1) := by decide +kernel
theorem dL_law_198 : decode cL_law 198 = .ok (.invokevirtual 18, 3) := by decide +kernel
theorem dL_law_201 : decode cL_law 201 = .ok (.aload_n 2, 1) := by decide +kernel
theorem dL_law_202 : decode cL_law 202 = .ok (.aload_n 0, 1) := by decide +kernel
theorem dL_law_203 : decode cL_law 203 = .ok (.iload_n 3, 1) := by decide +kernel
theorem dL_law_204 : decode cL_law 204 = .ok (.iconst 1, 1) := by decide +kernel
theorem dL_law_205 : decode cL_law 205 = .ok (.iadd, 1) := by decide +kernel
theorem dL_law_206 : decode cL_law 206 = .ok (.iaload, 1) := by decide +kernel
theorem dL_law_207 : decode cL_law 207 = .ok (.aload_n 0, 1) := by decide +kernel
theorem dL_law_208 : decode cL_law 208 = .ok (.iload_n 3, 1) := by decide +kernel
theorem dL_law_209 : decode cL_law 209 = .ok (.iconst 2, 1) := by decide +kernel
theorem dL_law_210 : decode cL_law 210 = .ok (.iadd, 1) := by decide +kernel
theorem dL_law_211 : decode cL_law 211 = .ok (.iaload, 1) := by decide +kernel
theorem dL_law_212 : decode cL_law 212 = .ok (.aload_n 0, 1) := by decide +kernel
theorem dL_law_213 : decode cL_law 213 = .ok (.iload_n 3, 1) := by decide +kernel
theorem dL_law_214 : decode cL_law 214 = .ok (.iconst 3, 1) := by decide +kernel
theorem dL_law_215 : decode cL_law 215 = .ok (.iadd, 1) := by decide +kernel
theorem dL_law_216 : decode cL_law 216 = .ok (.iaload, 1) := by decide +kernel
theorem dL_law_217 : decode cL_law 217 = .ok (.aload_n 0, 1) := by decide +kernel
theorem dL_law_218 : decode cL_law 218 = .ok (.iload_n 3, 1) := by decide +kernel
theorem dL_law_219 : decode cL_law 219 = .ok (.iconst 4, 1) := by decide +kernel
theorem dL_law_220 : decode cL_law 220 = .ok (.iadd, 1) := by decide +kernel
theorem dL_law_221 : decode cL_law 221 = .ok (.iaload, 1) := by decide +kernel
theorem dL_law_222 : decode cL_law 222 = .ok (.invokevirtual 22, 3) := by decide +kernel
theorem dL_law_225 : decode cL_law 225 = .ok (.if_icmp .eq 628, 3) := by decide +kernel
theorem dL_law_228 : decode cL_law 228 = .ok (.iconst 0, 1) := by decide +kernel
theorem dL_law_229 : decode cL_law 229 = .ok (.ireturn, 1) := by decide +kernel
theorem dL_law_230 : decode cL_law 230 = .ok (.aload_n 1, 1) := by decide +kernel
theorem dL_law_231 : decode cL_law 231 = .ok (.invokevirtual 23, 3) := by decide +kernel
theorem dL_law_234 : decode cL_law 234 = .ok (.aload_n 2, 1) := by decide +kernel
theorem dL_law_235 : decode cL_law 235 = .ok (.invokevirtual 27, 3) := by decide +kernel
theorem dL_law_238 : decode cL_law 238 = .ok (.if_icmp .eq 615, 3) := by decide +kernel
theorem dL_law_241 : decode cL_law 241 = .ok (.iconst 0, 1) := by decide +kernel
theorem dL_law_242 : decode cL_law 242 = .ok (.ireturn, 1) := by decide +kernel
theorem dL_law_243 : decode cL_law 243 = .ok (.aload_n 1, 1) := by decide +kernel
theorem dL_law_244 : decode cL_law 244 = .ok (.aload_n 0, 1) := by decide +kernel
theorem dL_law_245 : decode cL_law 245 = .ok (.iload_n 3, 1) := by decide +kernel
theorem dL_law_246 : decode cL_law 246 = .ok (.iconst 1, 1) := by decide +kernel
theorem dL_law_247 : decode cL_law 247 = .ok (.iadd, 1) := by decide +kernel
theorem dL_law_248 : decode cL_law 248 = .ok (.iaload, 1) := by decide +kernel
theorem dL_law_249 : decode cL_law 249 = .ok (.invokevirtual 28, 3) := by decide +kernel
theorem dL_law_252 : decode cL_law 252 = .ok (.aload_n 2, 1) := by decide +kernel
theorem dL_law_253 : decode cL_law 253 = .ok (.aload_n 0, 1) := by decide +kernel
theorem dL_law_254 : decode cL_law 254 = .ok (.iload_n 3, 1) := by decide +kernel
theorem dL_law_255 : decode cL_law 255 = .ok (.iconst 1, 1) := by decide +kernel
theorem dL_law_256 : decode cL_law 256 = .ok (.iadd, 1) := by decide +kernel
theorem dL_law_257 : decode cL_law 257 = .ok (.iaload, 1) := by decide +kernel
theorem dL_law_258 : decode cL_law 258 = .ok (.invokevirtual 32, 3) := by decide +kernel
theorem dL_law_261 : decode cL_law 261 = .ok (.if_icmp .eq 592, 3) := by decide +kernel
theorem dL_law_264 : decode cL_law 264 = .ok (.iconst 0, 1) := by decide +kernel
theorem dL_law_265 : decode cL_law 265 = .ok (.ireturn, 1) := by decide +kernel
theorem dL_law_266 : decode cL_law 266 = .ok (.aload_n 1, 1) := by decide +kernel
theorem dL_law_267 : decode cL_law 267 = .ok (.aload_n 0, 1) := by decide +kernel
theorem dL_law_268 : decode cL_law 268 = .ok (.iload_n 3, 1) := by decide +kernel
theorem dL_law_269 : decode cL_law 269 = .ok (.iconst 1, 1) := by decide +kernel
theorem dL_law_270 : decode cL_law 270 = .ok (.iadd, 1) := by decide +kernel
theorem dL_law_271 : decode cL_law 271 = .ok (.iaload, 1) := by decide +kernel
theorem dL_law_272 : decode cL_law 272 = .ok (.aload_n 0, 1) := by decide +kernel
theorem dL_law_273 : decode cL_law 273 = .ok (.iload_n 3, 1) := by decide +kernel
theorem dL_law_274 : decode cL_law 274 = .ok (.iconst 2, 1) := by decide +kernel
theorem dL_law_275 : decode cL_law 275 = .ok (.iadd, 1) := by decide +kernel
theorem dL_law_276 : decode cL_law 276 = .ok (.iaload, 1) := by decide +kernel
theorem dL_law_277 : decode cL_law 277 = .ok (.invokevirtual 33, 3) := by decide +kernel
theorem dL_law_280 : decode cL_law 280 = .ok (.aload_n 2, 1) := by decide +kernel
theorem dL_law_281 : decode cL_law 281 = .ok (.aload_n 0, 1) := by decide +kernel
theorem dL_law_282 : decode cL_law 282 = .ok (.iload_n 3, 1) := by decide +kernel
theorem dL_law_283 : decode cL_law 283 = .ok (.iconst 1, 1) := by decide +kernel
theorem dL_law_284 : decode cL_law 284 = .ok (.iadd, 1) := by decide +kernel
theorem dL_law_285 : decode cL_law 285 = .ok (.iaload, 1) := by decide +kernel
theorem dL_law_286 : decode cL_law 286 = .ok (.aload_n 0, 1) := by decide +kernel
theorem dL_law_287 : decode cL_law 287 = .ok (.iload_n 3, 1) := by decide +kernel
theorem dL_law_288 : decode cL_law 288 = .ok (.iconst 2, 1) := by decide +kernel
theorem dL_law_289 : decode cL_law 289 = .ok (.iadd, 1) := by decide +kernel
theorem dL_law_290 : decode cL_law 290 = .ok (.iaload, 1) := by decide +kernel
theorem dL_law_291 : decode cL_law 291 = .ok (.invokevirtual 36, 3) := by decide +kernel
theorem dL_law_294 : decode cL_law 294 = .ok (.if_icmp .eq 559, 3) := by decide +kernel
theorem dL_law_297 : decode cL_law 297 = .ok (.iconst 0, 1) := by decide +kernel
theorem dL_law_298 : decode cL_law 298 = .ok (.ireturn, 1) := by decide +kernel
theorem dL_law_299 : decode cL_law 299 = .ok (.aload_n 1, 1) := by decide +kernel
theorem dL_law_300 : decode cL_law 300 = .ok (.aload_n 0, 1) := by decide +kernel
theorem dL_law_301 : decode cL_law 301 = .ok (.iload_n 3, 1) := by decide +kernel
theorem dL_law_302 : decode cL_law 302 = .ok (.iconst 1, 1) := by decide +kernel
theorem dL_law_303 : decode cL_law 303 = .ok (.iadd, 1) := by decide +kernel
theorem dL_law_304 : decode cL_law 304 = .ok (.iaload, 1) := by decide +kernel
theorem dL_law_305 : decode cL_law 305 = .ok (.aload_n 0, 1) := by decide +kernel
theorem dL_law_306 : decode cL_law 306 = .ok (.iload_n 3, 1) := by decide +kernel
theorem dL_law_307 : decode cL_law 307 = .ok (.iconst 2, 1) := by decide +kernel
theorem dL_law_308 : decode cL_law 308 = .ok (.iadd, 1) := by decide +kernel
theorem dL_law_309 : decode cL_law 309 = .ok (.iaload, 1) := by decide +kernel
theorem dL_law_310 : decode cL_law 310 = .ok (.invokevirtual 37, 3) := by decide +kernel
theorem dL_law_313 : decode cL_law 313 = .ok (.aload_n 2, 1) := by decide +kernel
theorem dL_law_314 : decode cL_law 314 = .ok (.aload_n 0, 1) := by decide +kernel
theorem dL_law_315 : decode cL_law 315 = .ok (.iload_n 3, 1) := by decide +kernel
theorem dL_law_316 : decode cL_law 316 = .ok (.iconst 1, 1) := by decide +kernel
theorem dL_law_317 : decode cL_law 317 = .ok (.iadd, 1) := by decide +kernel
theorem dL_law_318 : decode cL_law 318 = .ok (.iaload, 1) := by decide +kernel
theorem dL_law_319 : decode cL_law 319 = .ok (.aload_n 0, 1) := by decide +kernel
theorem dL_law_320 : decode cL_law 320 = .ok (.iload_n 3, 1) := by decide +kernel
theorem dL_law_321 : decode cL_law 321 = .ok (.iconst 2, 1) := by decide +kernel
theorem dL_law_322 : decode cL_law 322 = .ok (.iadd, 1) := by decide +kernel
theorem dL_law_323 : decode cL_law 323 = .ok (.iaload, 1) := by decide +kernel
theorem dL_law_324 : decode cL_law 324 = .ok (.invokevirtual 40, 3) := by decide +kernel
theorem dL_law_327 : decode cL_law 327 = .ok (.if_icmp .eq 526, 3) := by decide +kernel
theorem dL_law_330 : decode cL_law 330 = .ok (.iconst 0, 1) := by decide +kernel
theorem dL_law_331 : decode cL_law 331 = .ok (.ireturn, 1) := by decide +kernel
theorem dL_law_332 : decode cL_law 332 = .ok (.aload_n 1, 1) := by decide +kernel
theorem dL_law_333 : decode cL_law 333 = .ok (.aload_n 0, 1) := by decide +kernel
theorem dL_law_334 : decode cL_law 334 = .ok (.iload_n 3, 1) := by decide +kernel
theorem dL_law_335 : decode cL_law 335 = .ok (.iconst 1, 1) := by decide +kernel
theorem dL_law_336 : decode cL_law 336 = .ok (.iadd, 1) := by decide +kernel
theorem dL_law_337 : decode cL_law 337 = .ok (.iaload, 1) := by decide +kernel
theorem dL_law_338 : decode cL_law 338 = .ok (.aload_n 0, 1) := by decide +kernel
theorem dL_law_339 : decode cL_law 339 = .ok (.iload_n 3, 1) := by decide +kernel
theorem dL_law_340 : decode cL_law 340 = .ok (.iconst 2, 1) := by decide +kernel
theorem dL_law_341 : decode cL_law 341 = .ok (.iadd, 1) := by decide +kernel
theorem dL_law_342 : decode cL_law 342 = .ok (.iaload, 1) := by decide +kernel
theorem dL_law_343 : decode cL_law 343 = .ok (.invokevirtual 41, 3) := by decide +kernel
theorem dL_law_346 : decode cL_law 346 = .ok (.aload_n 2, 1) := by decide +kernel
theorem dL_law_347 : decode cL_law 347 = .ok (.aload_n 0, 1) := by decide +kernel
theorem dL_law_348 : decode cL_law 348 = .ok (.iload_n 3, 1) := by decide +kernel
theorem dL_law_349 : decode cL_law 349 = .ok (.iconst 1, 1) := by decide +kernel
theorem dL_law_350 : decode cL_law 350 = .ok (.iadd, 1) := by decide +kernel
theorem dL_law_351 : decode cL_law 351 = .ok (.iaload, 1) := by decide +kernel
theorem dL_law_352 : decode cL_law 352 = .ok (.aload_n 0, 1) := by decide +kernel
theorem dL_law_353 : decode cL_law 353 = .ok (.iload_n 3, 1) := by decide +kernel
theorem dL_law_354 : decode cL_law 354 = .ok (.iconst 2, 1) := by decide +kernel
theorem dL_law_355 : decode cL_law 355 = .ok (.iadd, 1) := by decide +kernel
theorem dL_law_356 : decode cL_law 356 = .ok (.iaload, 1) := by decide +kernel
theorem dL_law_357 : decode cL_law 357 = .ok (.invokevirtual 44, 3) := by decide +kernel
theorem dL_law_360 : decode cL_law 360 = .ok (.if_icmp .eq 493, 3) := by decide +kernel
theorem dL_law_363 : decode cL_law 363 = .ok (.iconst 0, 1) := by decide +kernel
theorem dL_law_364 : decode cL_law 364 = .ok (.ireturn, 1) := by decide +kernel
theorem dL_law_365 : decode cL_law 365 = .ok (.aload_n 1, 1) := by decide +kernel
theorem dL_law_366 : decode cL_law 366 = .ok (.aload_n 0, 1) := by decide +kernel
theorem dL_law_367 : decode cL_law 367 = .ok (.iload_n 3, 1) := by decide +kernel
theorem dL_law_368 : decode cL_law 368 = .ok (.iconst 1, 1) := by decide +kernel
theorem dL_law_369 : decode cL_law 369 = .ok (.iadd, 1) := by decide +kernel
theorem dL_law_370 : decode cL_law 370 = .ok (.iaload, 1) := by decide +kernel
theorem dL_law_371 : decode cL_law 371 = .ok (.aload_n 0, 1) := by decide +kernel
theorem dL_law_372 : decode cL_law 372 = .ok (.iload_n 3, 1) := by decide +kernel
theorem dL_law_373 : decode cL_law 373 = .ok (.iconst 2, 1) := by decide +kernel
theorem dL_law_374 : decode cL_law 374 = .ok (.iadd, 1) := by decide +kernel
theorem dL_law_375 : decode cL_law 375 = .ok (.iaload, 1) := by decide +kernel
theorem dL_law_376 : decode cL_law 376 = .ok (.invokevirtual 45, 3) := by decide +kernel
theorem dL_law_379 : decode cL_law 379 = .ok (.aload_n 2, 1) := by decide +kernel
theorem dL_law_380 : decode cL_law 380 = .ok (.aload_n 0, 1) := by decide +kernel
theorem dL_law_381 : decode cL_law 381 = .ok (.iload_n 3, 1) := by decide +kernel
theorem dL_law_382 : decode cL_law 382 = .ok (.iconst 1, 1) := by decide +kernel
theorem dL_law_383 : decode cL_law 383 = .ok (.iadd, 1) := by decide +kernel
theorem dL_law_384 : decode cL_law 384 = .ok (.iaload, 1) := by decide +kernel
theorem dL_law_385 : decode cL_law 385 = .ok (.aload_n 0, 1) := by decide +kernel
theorem dL_law_386 : decode cL_law 386 = .ok (.iload_n 3, 1) := by decide +kernel
theorem dL_law_387 : decode cL_law 387 = .ok (.iconst 2, 1) := by decide +kernel
theorem dL_law_388 : decode cL_law 388 = .ok (.iadd, 1) := by decide +kernel
theorem dL_law_389 : decode cL_law 389 = .ok (.iaload, 1) := by decide +kernel
theorem dL_law_390 : decode cL_law 390 = .ok (.invokevirtual 48, 3) := by decide +kernel
theorem dL_law_393 : decode cL_law 393 = .ok (.if_icmp .eq 460, 3) := by decide +kernel
theorem dL_law_396 : decode cL_law 396 = .ok (.iconst 0, 1) := by decide +kernel
theorem dL_law_397 : decode cL_law 397 = .ok (.ireturn, 1) := by decide +kernel
theorem dL_law_398 : decode cL_law 398 = .ok (.aload_n 1, 1) := by decide +kernel
theorem dL_law_399 : decode cL_law 399 = .ok (.aload_n 0, 1) := by decide +kernel
theorem dL_law_400 : decode cL_law 400 = .ok (.iload_n 3, 1) := by decide +kernel
theorem dL_law_401 : decode cL_law 401 = .ok (.iconst 1, 1) := by decide +kernel
theorem dL_law_402 : decode cL_law 402 = .ok (.iadd, 1) := by decide +kernel
theorem dL_law_403 : decode cL_law 403 = .ok (.iaload, 1) := by decide +kernel
theorem dL_law_404 : decode cL_law 404 = .ok (.invokevirtual 49, 3) := by decide +kernel
theorem dL_law_407 : decode cL_law 407 = .ok (.aload_n 2, 1) := by decide +kernel
theorem dL_law_408 : decode cL_law 408 = .ok (.aload_n 0, 1) := by decide +kernel
theorem dL_law_409 : decode cL_law 409 = .ok (.iload_n 3, 1) := by decide +kernel
theorem dL_law_410 : decode cL_law 410 = .ok (.iconst 1, 1) := by decide +kernel
theorem dL_law_411 : decode cL_law 411 = .ok (.iadd, 1) := by decide +kernel
theorem dL_law_412 : decode cL_law 412 = .ok (.iaload, 1) := by decide +kernel
theorem dL_law_413 : decode cL_law 413 = .ok (.invokevirtual 53, 3) := by decide +kernel
theorem dL_law_416 : decode cL_law 416 = .ok (.lcmp, 1) := by decide +kernel
theorem dL_law_417 : decode cL_law 417 = .ok (.ifCond .eq 436, 3) := by decide +kernel
theorem dL_law_420 : decode cL_law 420 = .ok (.iconst 0, 1) := by decide +kernel
theorem dL_law_421 : decode cL_law 421 = .ok (.ireturn, 1) := by decide +kernel
theorem dL_law_422 : decode cL_law 422 = .ok (.aload_n 1, 1) := by decide +kernel
theorem dL_law_423 : decode cL_law 423 = .ok (.aload_n 0, 1) := by decide +kernel
theorem dL_law_424 : decode cL_law 424 = .ok (.iload_n 3, 1) := by decide +kernel
theorem dL_law_425 : decode cL_law 425 = .ok (.iconst 1, 1) := by decide +kernel
theorem dL_law_426 : decode cL_law 426 = .ok (.iadd, 1) := by decide +kernel
theorem dL_law_427 : decode cL_law 427 = .ok (.iaload, 1) := by decide +kernel
theorem dL_law_428 : decode cL_law 428 = .ok (.aload_n 0, 1) := by decide +kernel
theorem dL_law_429 : decode cL_law 429 = .ok (.iload_n 3, 1) := by decide +kernel
theorem dL_law_430 : decode cL_law 430 = .ok (.iconst 2, 1) := by decide +kernel
theorem dL_law_431 : decode cL_law 431 = .ok (.iadd, 1) := by decide +kernel
theorem dL_law_432 : decode cL_law 432 = .ok (.iaload, 1) := by decide +kernel
theorem dL_law_433 : decode cL_law 433 = .ok (.invokevirtual 54, 3) := by decide +kernel
theorem dL_law_436 : decode cL_law 436 = .ok (.aload_n 2, 1) := by decide +kernel
theorem dL_law_437 : decode cL_law 437 = .ok (.aload_n 0, 1) := by decide +kernel
theorem dL_law_438 : decode cL_law 438 = .ok (.iload_n 3, 1) := by decide +kernel
theorem dL_law_439 : decode cL_law 439 = .ok (.iconst 1, 1) := by decide +kernel
theorem dL_law_440 : decode cL_law 440 = .ok (.iadd, 1) := by decide +kernel
theorem dL_law_441 : decode cL_law 441 = .ok (.iaload, 1) := by decide +kernel
theorem dL_law_442 : decode cL_law 442 = .ok (.aload_n 0, 1) := by decide +kernel
theorem dL_law_443 : decode cL_law 443 = .ok (.iload_n 3, 1) := by decide +kernel
theorem dL_law_444 : decode cL_law 444 = .ok (.iconst 2, 1) := by decide +kernel
theorem dL_law_445 : decode cL_law 445 = .ok (.iadd, 1) := by decide +kernel
theorem dL_law_446 : decode cL_law 446 = .ok (.iaload, 1) := by decide +kernel
theorem dL_law_447 : decode cL_law 447 = .ok (.invokevirtual 57, 3) := by decide +kernel
theorem dL_law_450 : decode cL_law 450 = .ok (.if_icmp .eq 403, 3) := by decide +kernel
theorem dL_law_453 : decode cL_law 453 = .ok (.iconst 0, 1) := by decide +kernel
theorem dL_law_454 : decode cL_law 454 = .ok (.ireturn, 1) := by decide +kernel
theorem dL_law_455 : decode cL_law 455 = .ok (.aload_n 1, 1) := by decide +kernel
theorem dL_law_456 : decode cL_law 456 = .ok (.aload_n 0, 1) := by decide +kernel
theorem dL_law_457 : decode cL_law 457 = .ok (.iload_n 3, 1) := by decide +kernel
theorem dL_law_458 : decode cL_law 458 = .ok (.iconst 1, 1) := by decide +kernel
theorem dL_law_459 : decode cL_law 459 = .ok (.iadd, 1) := by decide +kernel
theorem dL_law_460 : decode cL_law 460 = .ok (.iaload, 1) := by decide +kernel
theorem dL_law_461 : decode cL_law 461 = .ok (.aload_n 0, 1) := by decide +kernel
theorem dL_law_462 : decode cL_law 462 = .ok (.iload_n 3, 1) := by decide +kernel
theorem dL_law_463 : decode cL_law 463 = .ok (.iconst 2, 1) := by decide +kernel
theorem dL_law_464 : decode cL_law 464 = .ok (.iadd, 1) := by decide +kernel
theorem dL_law_465 : decode cL_law 465 = .ok (.iaload, 1) := by decide +kernel
theorem dL_law_466 : decode cL_law 466 = .ok (.invokevirtual 58, 3) := by decide +kernel
theorem dL_law_469 : decode cL_law 469 = .ok (.aload_n 2, 1) := by decide +kernel
theorem dL_law_470 : decode cL_law 470 = .ok (.aload_n 0, 1) := by decide +kernel
theorem dL_law_471 : decode cL_law 471 = .ok (.iload_n 3, 1) := by decide +kernel
theorem dL_law_472 : decode cL_law 472 = .ok (.iconst 1, 1) := by decide +kernel
theorem dL_law_473 : decode cL_law 473 = .ok (.iadd, 1) := by decide +kernel
theorem dL_law_474 : decode cL_law 474 = .ok (.iaload, 1) := by decide +kernel
theorem dL_law_475 : decode cL_law 475 = .ok (.aload_n 0, 1) := by decide +kernel
theorem dL_law_476 : decode cL_law 476 = .ok (.iload_n 3, 1) := by decide +kernel
theorem dL_law_477 : decode cL_law 477 = .ok (.iconst 2, 1) := by decide +kernel
theorem dL_law_478 : decode cL_law 478 = .ok (.iadd, 1) := by decide +kernel
theorem dL_law_479 : decode cL_law 479 = .ok (.iaload, 1) := by decide +kernel
theorem dL_law_480 : decode cL_law 480 = .ok (.invokevirtual 61, 3) := by decide +kernel
theorem dL_law_483 : decode cL_law 483 = .ok (.if_icmp .eq 370, 3) := by decide +kernel
theorem dL_law_486 : decode cL_law 486 = .ok (.iconst 0, 1) := by decide +kernel
theorem dL_law_487 : decode cL_law 487 = .ok (.ireturn, 1) := by decide +kernel
theorem dL_law_488 : decode cL_law 488 = .ok (.aload_n 1, 1) := by decide +kernel
theorem dL_law_489 : decode cL_law 489 = .ok (.aload_n 0, 1) := by decide +kernel
theorem dL_law_490 : decode cL_law 490 = .ok (.iload_n 3, 1) := by decide +kernel
theorem dL_law_491 : decode cL_law 491 = .ok (.iconst 1, 1) := by decide +kernel
theorem dL_law_492 : decode cL_law 492 = .ok (.iadd, 1) := by decide +kernel
theorem dL_law_493 : decode cL_law 493 = .ok (.iaload, 1) := by decide +kernel
theorem dL_law_494 : decode cL_law 494 = .ok (.aload_n 0, 1) := by decide +kernel
theorem dL_law_495 : decode cL_law 495 = .ok (.iload_n 3, 1) := by decide +kernel
theorem dL_law_496 : decode cL_law 496 = .ok (.iconst 2, 1) := by decide +kernel
theorem dL_law_497 : decode cL_law 497 = .ok (.iadd, 1) := by decide +kernel
theorem dL_law_498 : decode cL_law 498 = .ok (.iaload, 1) := by decide +kernel
theorem dL_law_499 : decode cL_law 499 = .ok (.aload_n 0, 1) := by decide +kernel
theorem dL_law_500 : decode cL_law 500 = .ok (.iload_n 3, 1) := by decide +kernel
theorem dL_law_501 : decode cL_law 501 = .ok (.iconst 3, 1) := by decide +kernel
theorem dL_law_502 : decode cL_law 502 = .ok (.iadd, 1) := by decide +kernel
theorem dL_law_503 : decode cL_law 503 = .ok (.iaload, 1) := by decide +kernel
theorem dL_law_504 : decode cL_law 504 = .ok (.invokevirtual 62, 3) := by decide +kernel
theorem dL_law_507 : decode cL_law 507 = .ok (.aload_n 2, 1) := by decide +kernel
theorem dL_law_508 : decode cL_law 508 = .ok (.aload_n 0, 1) := by decide +kernel
theorem dL_law_509 : decode cL_law 509 = .ok (.iload_n 3, 1) := by decide +kernel
theorem dL_law_510 : decode cL_law 510 = .ok (.iconst 1, 1) := by decide +kernel
theorem dL_law_511 : decode cL_law 511 = .ok (.iadd, 1) := by decide +kernel
theorem dL_law_512 : decode cL_law 512 = .ok (.iaload, 1) := by decide +kernel
theorem dL_law_513 : decode cL_law 513 = .ok (.aload_n 0, 1) := by decide +kernel
theorem dL_law_514 : decode cL_law 514 = .ok (.iload_n 3, 1) := by decide +kernel
theorem dL_law_515 : decode cL_law 515 = .ok (.iconst 2, 1) := by decide +kernel
theorem dL_law_516 : decode cL_law 516 = .ok (.iadd, 1) := by decide +kernel
theorem dL_law_517 : decode cL_law 517 = .ok (.iaload, 1) := by decide +kernel
theorem dL_law_518 : decode cL_law 518 = .ok (.aload_n 0, 1) := by decide +kernel
theorem dL_law_519 : decode cL_law 519 = .ok (.iload_n 3, 1) := by decide +kernel
theorem dL_law_520 : decode cL_law 520 = .ok (.iconst 3, 1) := by decide +kernel
theorem dL_law_521 : decode cL_law 521 = .ok (.iadd, 1) := by decide +kernel
theorem dL_law_522 : decode cL_law 522 = .ok (.iaload, 1) := by decide +kernel
theorem dL_law_523 : decode cL_law 523 = .ok (.invokevirtual 66, 3) := by decide +kernel
theorem dL_law_526 : decode cL_law 526 = .ok (.if_icmp .eq 327, 3) := by decide +kernel
theorem dL_law_529 : decode cL_law 529 = .ok (.iconst 0, 1) := by decide +kernel
theorem dL_law_530 : decode cL_law 530 = .ok (.ireturn, 1) := by decide +kernel
theorem dL_law_531 : decode cL_law 531 = .ok (.aload_n 1, 1) := by decide +kernel
theorem dL_law_532 : decode cL_law 532 = .ok (.aload_n 0, 1) := by decide +kernel
theorem dL_law_533 : decode cL_law 533 = .ok (.iload_n 3, 1) := by decide +kernel
theorem dL_law_534 : decode cL_law 534 = .ok (.iconst 1, 1) := by decide +kernel
theorem dL_law_535 : decode cL_law 535 = .ok (.iadd, 1) := by decide +kernel
theorem dL_law_536 : decode cL_law 536 = .ok (.iaload, 1) := by decide +kernel
theorem dL_law_537 : decode cL_law 537 = .ok (.invokevirtual 67, 3) := by decide +kernel
theorem dL_law_540 : decode cL_law 540 = .ok (.aload_n 2, 1) := by decide +kernel
theorem dL_law_541 : decode cL_law 541 = .ok (.aload_n 0, 1) := by decide +kernel
theorem dL_law_542 : decode cL_law 542 = .ok (.iload_n 3, 1) := by decide +kernel
theorem dL_law_543 : decode cL_law 543 = .ok (.iconst 1, 1) := by decide +kernel
theorem dL_law_544 : decode cL_law 544 = .ok (.iadd, 1) := by decide +kernel
theorem dL_law_545 : decode cL_law 545 = .ok (.iaload, 1) := by decide +kernel
theorem dL_law_546 : decode cL_law 546 = .ok (.invokevirtual 70, 3) := by decide +kernel
theorem dL_law_549 : decode cL_law 549 = .ok (.if_icmp .eq 304, 3) := by decide +kernel
theorem dL_law_552 : decode cL_law 552 = .ok (.iconst 0, 1) := by decide +kernel
theorem dL_law_553 : decode cL_law 553 = .ok (.ireturn, 1) := by decide +kernel
theorem dL_law_554 : decode cL_law 554 = .ok (.aload_n 1, 1) := by decide +kernel
theorem dL_law_555 : decode cL_law 555 = .ok (.aload_n 0, 1) := by decide +kernel
theorem dL_law_556 : decode cL_law 556 = .ok (.iload_n 3, 1) := by decide +kernel
theorem dL_law_557 : decode cL_law 557 = .ok (.iconst 1, 1) := by decide +kernel
theorem dL_law_558 : decode cL_law 558 = .ok (.iadd, 1) := by decide +kernel
theorem dL_law_559 : decode cL_law 559 = .ok (.iaload, 1) := by decide +kernel
theorem dL_law_560 : decode cL_law 560 = .ok (.invokevirtual 71, 3) := by decide +kernel
theorem dL_law_563 : decode cL_law 563 = .ok (.aload_n 2, 1) := by decide +kernel
theorem dL_law_564 : decode cL_law 564 = .ok (.aload_n 0, 1) := by decide +kernel
theorem dL_law_565 : decode cL_law 565 = .ok (.iload_n 3, 1) := by decide +kernel
theorem dL_law_566 : decode cL_law 566 = .ok (.iconst 1, 1) := by decide +kernel
theorem dL_law_567 : decode cL_law 567 = .ok (.iadd, 1) := by decide +kernel
theorem dL_law_568 : decode cL_law 568 = .ok (.iaload, 1) := by decide +kernel
theorem dL_law_569 : decode cL_law 569 = .ok (.invokevirtual 74, 3) := by decide +kernel
theorem dL_law_572 : decode cL_law 572 = .ok (.if_icmp .eq 281, 3) := by decide +kernel
theorem dL_law_575 : decode cL_law 575 = .ok (.iconst 0, 1) := by decide +kernel
theorem dL_law_576 : decode cL_law 576 = .ok (.ireturn, 1) := by decide +kernel
theorem dL_law_577 : decode cL_law 577 = .ok (.aload_n 1, 1) := by decide +kernel
theorem dL_law_578 : decode cL_law 578 = .ok (.aload_n 0, 1) := by decide +kernel
theorem dL_law_579 : decode cL_law 579 = .ok (.iload_n 3, 1) := by decide +kernel
theorem dL_law_580 : decode cL_law 580 = .ok (.iconst 1, 1) := by decide +kernel
theorem dL_law_581 : decode cL_law 581 = .ok (.iadd, 1) := by decide +kernel
theorem dL_law_582 : decode cL_law 582 = .ok (.iaload, 1) := by decide +kernel
theorem dL_law_583 : decode cL_law 583 = .ok (.invokevirtual 75, 3) := by decide +kernel
theorem dL_law_586 : decode cL_law 586 = .ok (.aload_n 2, 1) := by decide +kernel
theorem dL_law_587 : decode cL_law 587 = .ok (.aload_n 0, 1) := by decide +kernel
theorem dL_law_588 : decode cL_law 588 = .ok (.iload_n 3, 1) := by decide +kernel
theorem dL_law_589 : decode cL_law 589 = .ok (.iconst 1, 1) := by decide +kernel
theorem dL_law_590 : decode cL_law 590 = .ok (.iadd, 1) := by decide +kernel
theorem dL_law_591 : decode cL_law 591 = .ok (.iaload, 1) := by decide +kernel
theorem dL_law_592 : decode cL_law 592 = .ok (.invokevirtual 78, 3) := by decide +kernel
theorem dL_law_595 : decode cL_law 595 = .ok (.if_icmp .eq 258, 3) := by decide +kernel
theorem dL_law_598 : decode cL_law 598 = .ok (.iconst 0, 1) := by decide +kernel
theorem dL_law_599 : decode cL_law 599 = .ok (.ireturn, 1) := by decide +kernel
theorem dL_law_600 : decode cL_law 600 = .ok (.aload_n 1, 1) := by decide +kernel
theorem dL_law_601 : decode cL_law 601 = .ok (.aload_n 0, 1) := by decide +kernel
theorem dL_law_602 : decode cL_law 602 = .ok (.iload_n 3, 1) := by decide +kernel
theorem dL_law_603 : decode cL_law 603 = .ok (.iconst 1, 1) := by decide +kernel
theorem dL_law_604 : decode cL_law 604 = .ok (.iadd, 1) := by decide +kernel
theorem dL_law_605 : decode cL_law 605 = .ok (.iaload, 1) := by decide +kernel
theorem dL_law_606 : decode cL_law 606 = .ok (.invokevirtual 79, 3) := by decide +kernel
theorem dL_law_609 : decode cL_law 609 = .ok (.aload_n 2, 1) := by decide +kernel
theorem dL_law_610 : decode cL_law 610 = .ok (.aload_n 0, 1) := by decide +kernel
theorem dL_law_611 : decode cL_law 611 = .ok (.iload_n 3, 1) := by decide +kernel
theorem dL_law_612 : decode cL_law 612 = .ok (.iconst 1, 1) := by decide +kernel
theorem dL_law_613 : decode cL_law 613 = .ok (.iadd, 1) := by decide +kernel
theorem dL_law_614 : decode cL_law 614 = .ok (.iaload, 1) := by decide +kernel
theorem dL_law_615 : decode cL_law 615 = .ok (.invokevirtual 82, 3) := by decide +kernel
theorem dL_law_618 : decode cL_law 618 = .ok (.if_icmp .eq 235, 3) := by decide +kernel
theorem dL_law_621 : decode cL_law 621 = .ok (.iconst 0, 1) := by decide +kernel
theorem dL_law_622 : decode cL_law 622 = .ok (.ireturn, 1) := by decide +kernel
theorem dL_law_623 : decode cL_law 623 = .ok (.aload_n 1, 1) := by decide +kernel
theorem dL_law_624 : decode cL_law 624 = .ok (.invokevirtual 83, 3) := by decide +kernel
theorem dL_law_627 : decode cL_law 627 = .ok (.aload_n 2, 1) := by decide +kernel
theorem dL_law_628 : decode cL_law 628 = .ok (.invokevirtual 86, 3) := by decide +kernel
theorem dL_law_631 : decode cL_law 631 = .ok (.if_icmp .eq 222, 3) := by decide +kernel
theorem dL_law_634 : decode cL_law 634 = .ok (.iconst 0, 1) := by decide +kernel
theorem dL_law_635 : decode cL_law 635 = .ok (.ireturn, 1) := by decide +kernel
theorem dL_law_636 : decode cL_law 636 = .ok (.aload_n 1, 1) := by decide +kernel
theorem dL_law_637 : decode cL_law 637 = .ok (.aload_n 0, 1) := by decide +kernel
theorem dL_law_638 : decode cL_law 638 = .ok (.iload_n 3, 1) := by decide +kernel
theorem dL_law_639 : decode cL_law 639 = .ok (.iconst 1, 1) := by decide +kernel
theorem dL_law_640 : decode cL_law 640 = .ok (.iadd, 1) := by decide +kernel
theorem dL_law_641 : decode cL_law 641 = .ok (.iaload, 1) := by decide +kernel
theorem dL_law_642 : decode cL_law 642 = .ok (.aload_n 0, 1) := by decide +kernel
theorem dL_law_643 : decode cL_law 643 = .ok (.iload_n 3, 1) := by decide +kernel
theorem dL_law_644 : decode cL_law 644 = .ok (.iconst 2, 1) := by decide +kernel
theorem dL_law_645 : decode cL_law 645 = .ok (.iadd, 1) := by decide +kernel
theorem dL_law_646 : decode cL_law 646 = .ok (.iaload, 1) := by decide +kernel
theorem dL_law_647 : decode cL_law 647 = .ok (.aload_n 0, 1) := by decide +kernel
theorem dL_law_648 : decode cL_law 648 = .ok (.iload_n 3, 1) := by decide +kernel
theorem dL_law_649 : decode cL_law 649 = .ok (.iconst 3, 1) := by decide +kernel
theorem dL_law_650 : decode cL_law 650 = .ok (.iadd, 1) := by decide +kernel
theorem dL_law_651 : decode cL_law 651 = .ok (.iaload, 1) := by decide +kernel
theorem dL_law_652 : decode cL_law 652 = .ok (.ifCond .eq 7, 3) := by decide +kernel
theorem dL_law_655 : decode cL_law 655 = .ok (.iconst 1, 1) := by decide +kernel
theorem dL_law_656 : decode cL_law 656 = .ok (.goto 4, 3) := by decide +kernel
theorem dL_law_659 : decode cL_law 659 = .ok (.iconst 0, 1) := by decide +kernel
theorem dL_law_660 : decode cL_law 660 = .ok (.invokevirtual 87, 3) := by decide +kernel
theorem dL_law_663 : decode cL_law 663 = .ok (.aload_n 2, 1) := by decide +kernel
theorem dL_law_664 : decode cL_law 664 = .ok (.aload_n 0, 1) := by decide +kernel
theorem dL_law_665 : decode cL_law 665 = .ok (.iload_n 3, 1) := by decide +kernel
theorem dL_law_666 : decode cL_law 666 = .ok (.iconst 1, 1) := by decide +kernel
theorem dL_law_667 : decode cL_law 667 = .ok (.iadd, 1) := by decide +kernel
theorem dL_law_668 : decode cL_law 668 = .ok (.iaload, 1) := by decide +kernel
theorem dL_law_669 : decode cL_law 669 = .ok (.aload_n 0, 1) := by decide +kernel
theorem dL_law_670 : decode cL_law 670 = .ok (.iload_n 3, 1) := by decide +kernel
theorem dL_law_671 : decode cL_law 671 = .ok (.iconst 2, 1) := by decide +kernel
theorem dL_law_672 : decode cL_law 672 = .ok (.iadd, 1) := by decide +kernel
theorem dL_law_673 : decode cL_law 673 = .ok (.iaload, 1) := by decide +kernel
theorem dL_law_674 : decode cL_law 674 = .ok (.aload_n 0, 1) := by decide +kernel
theorem dL_law_675 : decode cL_law 675 = .ok (.iload_n 3, 1) := by decide +kernel
theorem dL_law_676 : decode cL_law 676 = .ok (.iconst 3, 1) := by decide +kernel
theorem dL_law_677 : decode cL_law 677 = .ok (.iadd, 1) := by decide +kernel
theorem dL_law_678 : decode cL_law 678 = .ok (.iaload, 1) := by decide +kernel
theorem dL_law_679 : decode cL_law 679 = .ok (.ifCond .eq 7, 3) := by decide +kernel
theorem dL_law_682 : decode cL_law 682 = .ok (.iconst 1, 1) := by decide +kernel
theorem dL_law_683 : decode cL_law 683 = .ok (.goto 4, 3) := by decide +kernel
theorem dL_law_686 : decode cL_law 686 = .ok (.iconst 0, 1) := by decide +kernel
theorem dL_law_687 : decode cL_law 687 = .ok (.invokevirtual 91, 3) := by decide +kernel
theorem dL_law_690 : decode cL_law 690 = .ok (.if_icmp .eq 163, 3) := by decide +kernel
theorem dL_law_693 : decode cL_law 693 = .ok (.iconst 0, 1) := by decide +kernel
theorem dL_law_694 : decode cL_law 694 = .ok (.ireturn, 1) := by decide +kernel
theorem dL_law_695 : decode cL_law 695 = .ok (.aload_n 1, 1) := by decide +kernel
theorem dL_law_696 : decode cL_law 696 = .ok (.aload_n 0, 1) := by decide +kernel
theorem dL_law_697 : decode cL_law 697 = .ok (.iload_n 3, 1) := by decide +kernel
theorem dL_law_698 : decode cL_law 698 = .ok (.iconst 1, 1) := by decide +kernel
theorem dL_law_699 : decode cL_law 699 = .ok (.iadd, 1) := by decide +kernel
theorem dL_law_700 : decode cL_law 700 = .ok (.iaload, 1) := by decide +kernel
theorem dL_law_701 : decode cL_law 701 = .ok (.invokevirtual 92, 3) := by decide +kernel
theorem dL_law_704 : decode cL_law 704 = .ok (.aload_n 2, 1) := by decide +kernel
theorem dL_law_705 : decode cL_law 705 = .ok (.aload_n 0, 1) := by decide +kernel
theorem dL_law_706 : decode cL_law 706 = .ok (.iload_n 3, 1) := by decide +kernel
theorem dL_law_707 : decode cL_law 707 = .ok (.iconst 1, 1) := by decide +kernel
theorem dL_law_708 : decode cL_law 708 = .ok (.iadd, 1) := by decide +kernel
theorem dL_law_709 : decode cL_law 709 = .ok (.iaload, 1) := by decide +kernel
theorem dL_law_710 : decode cL_law 710 = .ok (.invokevirtual 95, 3) := by decide +kernel
theorem dL_law_713 : decode cL_law 713 = .ok (.if_icmp .eq 140, 3) := by decide +kernel
theorem dL_law_716 : decode cL_law 716 = .ok (.iconst 0, 1) := by decide +kernel
theorem dL_law_717 : decode cL_law 717 = .ok (.ireturn, 1) := by decide +kernel
theorem dL_law_718 : decode cL_law 718 = .ok (.aload_n 1, 1) := by decide +kernel
theorem dL_law_719 : decode cL_law 719 = .ok (.aload_n 0, 1) := by decide +kernel
theorem dL_law_720 : decode cL_law 720 = .ok (.iload_n 3, 1) := by decide +kernel
theorem dL_law_721 : decode cL_law 721 = .ok (.iconst 1, 1) := by decide +kernel
theorem dL_law_722 : decode cL_law 722 = .ok (.iadd, 1) := by decide +kernel
theorem dL_law_723 : decode cL_law 723 = .ok (.iaload, 1) := by decide +kernel
theorem dL_law_724 : decode cL_law 724 = .ok (.invokevirtual 96, 3) := by decide +kernel
theorem dL_law_727 : decode cL_law 727 = .ok (.aload_n 2, 1) := by decide +kernel
theorem dL_law_728 : decode cL_law 728 = .ok (.aload_n 0, 1) := by decide +kernel
theorem dL_law_729 : decode cL_law 729 = .ok (.iload_n 3, 1) := by decide +kernel
theorem dL_law_730 : decode cL_law 730 = .ok (.iconst 1, 1) := by decide +kernel
theorem dL_law_731 : decode cL_law 731 = .ok (.iadd, 1) := by decide +kernel
theorem dL_law_732 : decode cL_law 732 = .ok (.iaload, 1) := by decide +kernel
theorem dL_law_733 : decode cL_law 733 = .ok (.invokevirtual 99, 3) := by decide +kernel
theorem dL_law_736 : decode cL_law 736 = .ok (.if_icmp .eq 117, 3) := by decide +kernel
theorem dL_law_739 : decode cL_law 739 = .ok (.iconst 0, 1) := by decide +kernel
theorem dL_law_740 : decode cL_law 740 = .ok (.ireturn, 1) := by decide +kernel
theorem dL_law_741 : decode cL_law 741 = .ok (.aload_n 1, 1) := by decide +kernel
theorem dL_law_742 : decode cL_law 742 = .ok (.aload_n 0, 1) := by decide +kernel
theorem dL_law_743 : decode cL_law 743 = .ok (.iload_n 3, 1) := by decide +kernel
theorem dL_law_744 : decode cL_law 744 = .ok (.iconst 1, 1) := by decide +kernel
theorem dL_law_745 : decode cL_law 745 = .ok (.iadd, 1) := by decide +kernel
theorem dL_law_746 : decode cL_law 746 = .ok (.iaload, 1) := by decide +kernel
theorem dL_law_747 : decode cL_law 747 = .ok (.invokevirtual 100, 3) := by decide +kernel
theorem dL_law_750 : decode cL_law 750 = .ok (.aload_n 2, 1) := by decide +kernel
theorem dL_law_751 : decode cL_law 751 = .ok (.aload_n 0, 1) := by decide +kernel
theorem dL_law_752 : decode cL_law 752 = .ok (.iload_n 3, 1) := by decide +kernel
theorem dL_law_753 : decode cL_law 753 = .ok (.iconst 1, 1) := by decide +kernel
theorem dL_law_754 : decode cL_law 754 = .ok (.iadd, 1) := by decide +kernel
theorem dL_law_755 : decode cL_law 755 = .ok (.iaload, 1) := by decide +kernel
theorem dL_law_756 : decode cL_law 756 = .ok (.invokevirtual 103, 3) := by decide +kernel
theorem dL_law_759 : decode cL_law 759 = .ok (.if_icmp .eq 94, 3) := by decide +kernel
theorem dL_law_762 : decode cL_law 762 = .ok (.iconst 0, 1) := by decide +kernel
theorem dL_law_763 : decode cL_law 763 = .ok (.ireturn, 1) := by decide +kernel
theorem dL_law_764 : decode cL_law 764 = .ok (.aload_n 1, 1) := by decide +kernel
theorem dL_law_765 : decode cL_law 765 = .ok (.aload_n 0, 1) := by decide +kernel
theorem dL_law_766 : decode cL_law 766 = .ok (.iload_n 3, 1) := by decide +kernel
theorem dL_law_767 : decode cL_law 767 = .ok (.iconst 1, 1) := by decide +kernel
theorem dL_law_768 : decode cL_law 768 = .ok (.iadd, 1) := by decide +kernel
theorem dL_law_769 : decode cL_law 769 = .ok (.iaload, 1) := by decide +kernel
theorem dL_law_770 : decode cL_law 770 = .ok (.aload_n 0, 1) := by decide +kernel
theorem dL_law_771 : decode cL_law 771 = .ok (.iload_n 3, 1) := by decide +kernel
theorem dL_law_772 : decode cL_law 772 = .ok (.iconst 2, 1) := by decide +kernel
theorem dL_law_773 : decode cL_law 773 = .ok (.iadd, 1) := by decide +kernel
theorem dL_law_774 : decode cL_law 774 = .ok (.iaload, 1) := by decide +kernel
theorem dL_law_775 : decode cL_law 775 = .ok (.invokevirtual 104, 3) := by decide +kernel
theorem dL_law_778 : decode cL_law 778 = .ok (.aload_n 2, 1) := by decide +kernel
theorem dL_law_779 : decode cL_law 779 = .ok (.aload_n 0, 1) := by decide +kernel
theorem dL_law_780 : decode cL_law 780 = .ok (.iload_n 3, 1) := by decide +kernel
theorem dL_law_781 : decode cL_law 781 = .ok (.iconst 1, 1) := by decide +kernel
theorem dL_law_782 : decode cL_law 782 = .ok (.iadd, 1) := by decide +kernel
theorem dL_law_783 : decode cL_law 783 = .ok (.iaload, 1) := by decide +kernel
theorem dL_law_784 : decode cL_law 784 = .ok (.aload_n 0, 1) := by decide +kernel
theorem dL_law_785 : decode cL_law 785 = .ok (.iload_n 3, 1) := by decide +kernel
theorem dL_law_786 : decode cL_law 786 = .ok (.iconst 2, 1) := by decide +kernel
theorem dL_law_787 : decode cL_law 787 = .ok (.iadd, 1) := by decide +kernel
theorem dL_law_788 : decode cL_law 788 = .ok (.iaload, 1) := by decide +kernel
theorem dL_law_789 : decode cL_law 789 = .ok (.invokevirtual 107, 3) := by decide +kernel
theorem dL_law_792 : decode cL_law 792 = .ok (.if_icmp .eq 61, 3) := by decide +kernel
theorem dL_law_795 : decode cL_law 795 = .ok (.iconst 0, 1) := by decide +kernel
theorem dL_law_796 : decode cL_law 796 = .ok (.ireturn, 1) := by decide +kernel
theorem dL_law_797 : decode cL_law 797 = .ok (.aload_n 1, 1) := by decide +kernel
theorem dL_law_798 : decode cL_law 798 = .ok (.aload_n 0, 1) := by decide +kernel
theorem dL_law_799 : decode cL_law 799 = .ok (.iload_n 3, 1) := by decide +kernel
theorem dL_law_800 : decode cL_law 800 = .ok (.iconst 1, 1) := by decide +kernel
theorem dL_law_801 : decode cL_law 801 = .ok (.iadd, 1) := by decide +kernel
theorem dL_law_802 : decode cL_law 802 = .ok (.iaload, 1) := by decide +kernel
theorem dL_law_803 : decode cL_law 803 = .ok (.aload_n 0, 1) := by decide +kernel
theorem dL_law_804 : decode cL_law 804 = .ok (.iload_n 3, 1) := by decide +kernel
theorem dL_law_805 : decode cL_law 805 = .ok (.iconst 2, 1) := by decide +kernel
theorem dL_law_806 : decode cL_law 806 = .ok (.iadd, 1) := by decide +kernel
theorem dL_law_807 : decode cL_law 807 = .ok (.iaload, 1) := by decide +kernel
theorem dL_law_808 : decode cL_law 808 = .ok (.invokevirtual 108, 3) := by decide +kernel
theorem dL_law_811 : decode cL_law 811 = .ok (.aload_n 2, 1) := by decide +kernel
theorem dL_law_812 : decode cL_law 812 = .ok (.aload_n 0, 1) := by decide +kernel
theorem dL_law_813 : decode cL_law 813 = .ok (.iload_n 3, 1) := by decide +kernel
theorem dL_law_814 : decode cL_law 814 = .ok (.iconst 1, 1) := by decide +kernel
theorem dL_law_815 : decode cL_law 815 = .ok (.iadd, 1) := by decide +kernel
theorem dL_law_816 : decode cL_law 816 = .ok (.iaload, 1) := by decide +kernel
theorem dL_law_817 : decode cL_law 817 = .ok (.aload_n 0, 1) := by decide +kernel
theorem dL_law_818 : decode cL_law 818 = .ok (.iload_n 3, 1) := by decide +kernel
theorem dL_law_819 : decode cL_law 819 = .ok (.iconst 2, 1) := by decide +kernel
theorem dL_law_820 : decode cL_law 820 = .ok (.iadd, 1) := by decide +kernel
theorem dL_law_821 : decode cL_law 821 = .ok (.iaload, 1) := by decide +kernel
theorem dL_law_822 : decode cL_law 822 = .ok (.invokevirtual 111, 3) := by decide +kernel
theorem dL_law_825 : decode cL_law 825 = .ok (.if_icmp .eq 28, 3) := by decide +kernel
theorem dL_law_828 : decode cL_law 828 = .ok (.iconst 0, 1) := by decide +kernel
theorem dL_law_829 : decode cL_law 829 = .ok (.ireturn, 1) := by decide +kernel
theorem dL_law_830 : decode cL_law 830 = .ok (.aload_n 1, 1) := by decide +kernel
theorem dL_law_831 : decode cL_law 831 = .ok (.aload_n 0, 1) := by decide +kernel
theorem dL_law_832 : decode cL_law 832 = .ok (.iload_n 3, 1) := by decide +kernel
theorem dL_law_833 : decode cL_law 833 = .ok (.iconst 1, 1) := by decide +kernel
theorem dL_law_834 : decode cL_law 834 = .ok (.iadd, 1) := by decide +kernel
theorem dL_law_835 : decode cL_law 835 = .ok (.iaload, 1) := by decide +kernel
theorem dL_law_836 : decode cL_law 836 = .ok (.invokevirtual 112, 3) := by decide +kernel
theorem dL_law_839 : decode cL_law 839 = .ok (.aload_n 2, 1) := by decide +kernel
theorem dL_law_840 : decode cL_law 840 = .ok (.aload_n 0, 1) := by decide +kernel
theorem dL_law_841 : decode cL_law 841 = .ok (.iload_n 3, 1) := by decide +kernel
theorem dL_law_842 : decode cL_law 842 = .ok (.iconst 1, 1) := by decide +kernel
theorem dL_law_843 : decode cL_law 843 = .ok (.iadd, 1) := by decide +kernel
theorem dL_law_844 : decode cL_law 844 = .ok (.iaload, 1) := by decide +kernel
theorem dL_law_845 : decode cL_law 845 = .ok (.invokevirtual 115, 3) := by decide +kernel
theorem dL_law_848 : decode cL_law 848 = .ok (.if_icmp .eq 5, 3) := by decide +kernel
theorem dL_law_851 : decode cL_law 851 = .ok (.iconst 0, 1) := by decide +kernel
theorem dL_law_852 : decode cL_law 852 = .ok (.ireturn, 1) := by decide +kernel
theorem dL_law_853 : decode cL_law 853 = .ok (.iinc 3 5, 3) := by decide +kernel
theorem dL_law_856 : decode cL_law 856 = .ok (.goto (-838), 3) := by decide +kernel
theorem dL_law_859 : decode cL_law 859 = .ok (.iconst 1, 1) := by decide +kernel
theorem dL_law_860 : decode cL_law 860 = .ok (.ireturn, 1) := by decide +kernel
