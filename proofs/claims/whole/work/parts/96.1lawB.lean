/-! the law: its words lie in the tables -/
set_option maxRecDepth 20000 in
theorem ggL_law_X7_init : GoodIn wsL_law wsX7_init := goodIn_r _ [8, 9, 10, 11, 12, 13, 14, 15, 16, 17, 18, 19, 20, 21, 22, 23, 24, 25, 26, 27, 28, 29, 30, 31, 32, 33, 34, 35, 36, 37, 38, 39, 40, 41, 42, 43, 44, 45, 46, 47, 48, 49, 50, 51, 52, 53, 54, 55, 56, 57, 58, 59, 60, 61, 62, 63, 64, 65, 66, 67, 68, 69, 70, 71, 72, 73, 74, 75, 76, 77, 78, 79, 80, 81, 82, 83, 84, 85, 86, 87, 88, 89, 90, 91, 92, 93, 94, 95, 96, 97, 98, 99, 100, 101, 102, 103, 104, 105, 106, 107, 108, 109, 1284, 1285, 1286, 1287, 1288, 1289, 1290, 1291, 1292, 1293, 1294, 1295, 1245, 1246, 1247, 1248, 1249, 1250, 1251, 1252, 1253, 1254, 1296, 1297, 1298, 1299, 1300, 1301, 1302, 1303, 1304, 1305, 1306, 1307, 1308, 1309, 1310, 1311, 1312, 1313, 1314, 1315, 1316, 1317, 1318, 1319, 1320, 1321] (by decide +kernel) (by decide +kernel)
set_option maxRecDepth 20000 in
theorem gL_law_X7_init : GoodIn wsL_law (wsX7_init) := ggL_law_X7_init
set_option maxRecDepth 20000 in
theorem ggL_law_X8_init : GoodIn wsL_law wsX8_init := goodIn_r _ [112, 113, 10, 11, 37, 114, 115, 116, 117, 118, 119, 120, 121, 122, 123, 124, 125, 126, 127, 128, 129, 130, 1255, 1256, 1257, 1258, 1259, 1260, 1261, 1262, 1263, 1264, 1265, 1266, 1267, 1268, 1269, 1270, 1271, 1272, 1273, 1274, 1275, 1276, 1277, 1278, 1279, 1280, 1281, 1282, 1283] (by decide +kernel) (by decide +kernel)
set_option maxRecDepth 20000 in
theorem gL_law_X8_init : GoodIn wsL_law (wsX8_init) := ggL_law_X8_init
set_option maxRecDepth 20000 in
theorem ggL_law_X7_person : GoodIn wsL_law wsX7_person := goodIn_r _ [134, 15, 135, 136, 2, 137, 138, 139, 140, 141, 38, 142, 143, 144, 145, 14, 146, 52, 147, 148, 149, 150, 46, 47, 48, 49, 50, 151, 1245, 1246, 1247, 1248, 1249, 1250, 1251, 1252, 1253, 1254, 1284, 1285, 1286, 1287, 1288, 1289, 1290, 1291, 1292, 1293, 1294, 1295] (by decide +kernel) (by decide +kernel)
set_option maxRecDepth 20000 in
theorem gL_law_X7_person : GoodIn wsL_law (wsV RL 13 RX7 yX7_person wsX7_person) := goodIn_app (goodIn_of _ (by decide +kernel)) ggL_law_X7_person
set_option maxRecDepth 20000 in
theorem ggL_law_X8_person : GoodIn wsL_law wsX8_person := goodIn_r _ [155, 156, 114, 157, 158, 159, 5, 160, 161, 162, 163, 164, 165, 166, 167, 117, 168, 169, 170, 171, 172, 173, 174, 1255, 1256, 1257, 1258, 1259, 1260, 1261, 1262, 1263, 1264, 1265, 1266, 1267, 1268, 1269, 1270, 1271, 1272, 1273, 1274, 1275, 1276, 1277, 1278, 1279, 1280, 1281, 1282, 1283] (by decide +kernel) (by decide +kernel)
set_option maxRecDepth 20000 in
theorem gL_law_X8_person : GoodIn wsL_law (wsV RL 17 RX8 yX8_person wsX8_person) := goodIn_app (goodIn_of _ (by decide +kernel)) ggL_law_X8_person
set_option maxRecDepth 20000 in
theorem ggL_law_X7_of : GoodIn wsL_law wsX7_of := goodIn_r _ [178, 15, 179, 180, 181, 182, 183, 184, 185, 186, 187, 14, 188, 52, 138, 139, 140, 2, 141, 38, 142, 189, 190, 191, 192, 47, 46, 48, 193, 194, 195, 196, 55, 54, 50, 197, 198, 199, 200, 201, 202, 203, 204, 205, 206, 207, 208, 209, 210, 211, 1245, 1246, 1247, 1248, 1249, 1250, 1251, 1252, 1253, 1254, 1284, 1285, 1286, 1287, 1288, 1289, 1290, 1291, 1292, 1293, 1294, 1295] (by decide +kernel) (by decide +kernel)
set_option maxRecDepth 20000 in
theorem gL_law_X7_of : GoodIn wsL_law (wsV RL 18 RX7 yX7_of wsX7_of) := goodIn_app (goodIn_of _ (by decide +kernel)) ggL_law_X7_of
set_option maxRecDepth 20000 in
theorem ggL_law_X8_of : GoodIn wsL_law wsX8_of := goodIn_r _ [215, 156, 114, 216, 217, 218, 5, 219, 161, 162, 163, 164, 165, 166, 167, 117, 220, 221, 222, 223, 172, 173, 174, 224, 225, 226, 227, 228, 229, 230, 231, 232, 233, 234, 235, 236, 237, 238, 239, 240, 241, 242, 243, 244, 245, 246, 247, 204, 205, 206, 248, 208, 209, 1255, 1256, 1257, 1258, 1259, 1260, 1261, 1262, 1263, 1264, 1265, 1266, 1267, 1268, 1269, 1270, 1271, 1272, 1273, 1274, 1275, 1276, 1277, 1278, 1279, 1280, 1281, 1282, 1283] (by decide +kernel) (by decide +kernel)
set_option maxRecDepth 20000 in
theorem gL_law_X8_of : GoodIn wsL_law (wsV RL 22 RX8 yX8_of wsX8_of) := goodIn_app (goodIn_of _ (by decide +kernel)) ggL_law_X8_of
set_option maxRecDepth 20000 in
theorem ggL_law_X7_change : GoodIn wsL_law wsX7_change := goodIn_r _ [252, 15, 179, 180, 181, 182, 253, 185, 186, 187, 14, 188, 52, 138, 139, 140, 2, 141, 38, 142, 254, 255, 256, 257, 135, 136, 137, 1245, 1246, 1247, 1248, 1249, 1250, 1251, 1252, 1253, 1254, 1284, 1285, 1286, 1287, 1288, 1289, 1290, 1291, 1292, 1293, 1294, 1295] (by decide +kernel) (by decide +kernel)
set_option maxRecDepth 20000 in
theorem gL_law_X7_change : GoodIn wsL_law (wsV RL 23 RX7 yX7_change wsX7_change) := goodIn_app (goodIn_of _ (by decide +kernel)) ggL_law_X7_change
set_option maxRecDepth 20000 in
theorem ggL_law_X8_change : GoodIn wsL_law wsX8_change := goodIn_r _ [261, 156, 158, 159, 5, 160, 161, 162, 163, 262, 263, 264, 130, 216, 217, 218, 219, 114, 172, 173, 174, 265, 266, 267, 268, 164, 165, 166, 167, 117, 1255, 1256, 1257, 1258, 1259, 1260, 1261, 1262, 1263, 1264, 1265, 1266, 1267, 1268, 1269, 1270, 1271, 1272, 1273, 1274, 1275, 1276, 1277, 1278, 1279, 1280, 1281, 1282, 1283] (by decide +kernel) (by decide +kernel)
set_option maxRecDepth 20000 in
theorem gL_law_X8_change : GoodIn wsL_law (wsV RL 27 RX8 yX8_change wsX8_change) := goodIn_app (goodIn_of _ (by decide +kernel)) ggL_law_X8_change
set_option maxRecDepth 20000 in
theorem ggL_law_X7_share : GoodIn wsL_law wsX7_share := goodIn_r _ [272, 15, 183, 273, 274, 275, 14, 276, 277, 186, 187, 188, 52, 138, 139, 140, 2, 141, 38, 142, 278, 279, 280, 281, 50, 282, 283, 284, 285, 286, 1245, 1246, 1247, 1248, 1249, 1250, 1251, 1252, 1253, 1254, 1284, 1285, 1286, 1287, 1288, 1289, 1290, 1291, 1292, 1293, 1294, 1295] (by decide +kernel) (by decide +kernel)
set_option maxRecDepth 20000 in
theorem gL_law_X7_share : GoodIn wsL_law (wsV RL 28 RX7 yX7_share wsX7_share) := goodIn_app (goodIn_of _ (by decide +kernel)) ggL_law_X7_share
set_option maxRecDepth 20000 in
theorem ggL_law_X8_share : GoodIn wsL_law wsX8_share := goodIn_r _ [290, 156, 291, 292, 293, 5, 294, 216, 217, 218, 219, 114, 161, 162, 163, 295, 296, 297, 298, 220, 221, 222, 223, 172, 173, 174, 299, 300, 301, 302, 265, 266, 267, 268, 164, 165, 166, 167, 117, 1255, 1256, 1257, 1258, 1259, 1260, 1261, 1262, 1263, 1264, 1265, 1266, 1267, 1268, 1269, 1270, 1271, 1272, 1273, 1274, 1275, 1276, 1277, 1278, 1279, 1280, 1281, 1282, 1283] (by decide +kernel) (by decide +kernel)
set_option maxRecDepth 20000 in
theorem gL_law_X8_share : GoodIn wsL_law (wsV RL 31 RX8 yX8_share wsX8_share) := goodIn_app (goodIn_of _ (by decide +kernel)) ggL_law_X8_share
set_option maxRecDepth 20000 in
theorem ggL_law_X7_part : GoodIn wsL_law wsX7_part := goodIn_r _ [306, 15, 183, 185, 186, 187, 14, 188, 52, 138, 139, 140, 2, 141, 38, 142, 307, 284, 285, 286, 50, 277, 1245, 1246, 1247, 1248, 1249, 1250, 1251, 1252, 1253, 1254, 1284, 1285, 1286, 1287, 1288, 1289, 1290, 1291, 1292, 1293, 1294, 1295] (by decide +kernel) (by decide +kernel)
set_option maxRecDepth 20000 in
theorem gL_law_X7_part : GoodIn wsL_law (wsV RL 32 RX7 yX7_part wsX7_part) := goodIn_app (goodIn_of _ (by decide +kernel)) ggL_law_X7_part
set_option maxRecDepth 20000 in
theorem ggL_law_X8_part : GoodIn wsL_law wsX8_part := goodIn_r _ [311, 156, 312, 216, 217, 218, 5, 219, 114, 161, 162, 163, 164, 165, 166, 167, 117, 220, 221, 222, 223, 172, 173, 174, 299, 300, 301, 302, 265, 266, 267, 268, 1255, 1256, 1257, 1258, 1259, 1260, 1261, 1262, 1263, 1264, 1265, 1266, 1267, 1268, 1269, 1270, 1271, 1272, 1273, 1274, 1275, 1276, 1277, 1278, 1279, 1280, 1281, 1282, 1283] (by decide +kernel) (by decide +kernel)
set_option maxRecDepth 20000 in
theorem gL_law_X8_part : GoodIn wsL_law (wsV RL 35 RX8 yX8_part wsX8_part) := goodIn_app (goodIn_of _ (by decide +kernel)) ggL_law_X8_part
set_option maxRecDepth 20000 in
theorem ggL_law_X7_light : GoodIn wsL_law wsX7_light := goodIn_r _ [316, 253, 15, 317, 135, 136, 2, 137, 138, 139, 140, 141, 38, 142, 1245, 1246, 1247, 1248, 1249, 1250, 1251, 1252, 1253, 1254, 1284, 1285, 1286, 1287, 1288, 1289, 1290, 1291, 1292, 1293, 1294, 1295] (by decide +kernel) (by decide +kernel)
set_option maxRecDepth 20000 in
theorem gL_law_X7_light : GoodIn wsL_law (wsV RL 36 RX7 yX7_light wsX7_light) := goodIn_app (goodIn_of _ (by decide +kernel)) ggL_law_X7_light
set_option maxRecDepth 20000 in
theorem ggL_law_X8_light : GoodIn wsL_law wsX8_light := goodIn_r _ [321, 156, 262, 263, 5, 264, 130, 161, 162, 163, 265, 266, 267, 268, 114, 164, 165, 166, 167, 117, 1255, 1256, 1257, 1258, 1259, 1260, 1261, 1262, 1263, 1264, 1265, 1266, 1267, 1268, 1269, 1270, 1271, 1272, 1273, 1274, 1275, 1276, 1277, 1278, 1279, 1280, 1281, 1282, 1283] (by decide +kernel) (by decide +kernel)
set_option maxRecDepth 20000 in
theorem gL_law_X8_light : GoodIn wsL_law (wsV RL 39 RX8 yX8_light wsX8_light) := goodIn_app (goodIn_of _ (by decide +kernel)) ggL_law_X8_light
set_option maxRecDepth 20000 in
theorem ggL_law_X7_claim : GoodIn wsL_law wsX7_claim := goodIn_r _ [325, 15, 185, 186, 187, 14, 188, 52, 135, 136, 2, 137, 138, 139, 140, 141, 38, 142, 189, 190, 191, 192, 47, 46, 48, 1245, 1246, 1247, 1248, 1249, 1250, 1251, 1252, 1253, 1254, 1284, 1285, 1286, 1287, 1288, 1289, 1290, 1291, 1292, 1293, 1294, 1295] (by decide +kernel) (by decide +kernel)
set_option maxRecDepth 20000 in
theorem gL_law_X7_claim : GoodIn wsL_law (wsV RL 40 RX7 yX7_claim wsX7_claim) := goodIn_app (goodIn_of _ (by decide +kernel)) ggL_law_X7_claim
set_option maxRecDepth 20000 in
theorem ggL_law_X8_claim : GoodIn wsL_law wsX8_claim := goodIn_r _ [329, 156, 216, 217, 218, 5, 219, 114, 161, 162, 163, 228, 229, 230, 231, 220, 221, 222, 223, 172, 173, 174, 164, 165, 166, 167, 117, 1255, 1256, 1257, 1258, 1259, 1260, 1261, 1262, 1263, 1264, 1265, 1266, 1267, 1268, 1269, 1270, 1271, 1272, 1273, 1274, 1275, 1276, 1277, 1278, 1279, 1280, 1281, 1282, 1283] (by decide +kernel) (by decide +kernel)
set_option maxRecDepth 20000 in
theorem gL_law_X8_claim : GoodIn wsL_law (wsV RL 43 RX8 yX8_claim wsX8_claim) := goodIn_app (goodIn_of _ (by decide +kernel)) ggL_law_X8_claim
set_option maxRecDepth 20000 in
theorem ggL_law_X7_go : GoodIn wsL_law wsX7_go := goodIn_r _ [333, 15, 184, 334, 138, 139, 140, 2, 141, 38, 142, 335, 336, 337, 14, 338, 55, 339, 194, 195, 196, 54, 52, 50, 197, 198, 199, 200, 201, 202, 203, 204, 205, 206, 207, 208, 209, 210, 190, 191, 192, 47, 46, 48, 340, 341, 342, 343, 49, 344, 345, 346, 347, 56, 57, 1245, 1246, 1247, 1248, 1249, 1250, 1251, 1252, 1253, 1254, 1284, 1285, 1286, 1287, 1288, 1289, 1290, 1291, 1292, 1293, 1294, 1295] (by decide +kernel) (by decide +kernel)
set_option maxRecDepth 20000 in
theorem gL_law_X7_go : GoodIn wsL_law (wsV RL 44 RX7 yX7_go wsX7_go) := goodIn_app (goodIn_of _ (by decide +kernel)) ggL_law_X7_go
set_option maxRecDepth 20000 in
theorem ggL_law_X8_go : GoodIn wsL_law wsX8_go := goodIn_r _ [351, 156, 114, 352, 161, 162, 5, 163, 164, 165, 166, 167, 117, 353, 354, 355, 356, 357, 358, 359, 360, 248, 208, 205, 209, 247, 204, 206, 361, 362, 363, 364, 232, 233, 234, 235, 220, 221, 222, 223, 172, 173, 174, 236, 237, 238, 239, 240, 241, 242, 243, 244, 245, 246, 228, 229, 230, 231, 1255, 1256, 1257, 1258, 1259, 1260, 1261, 1262, 1263, 1264, 1265, 1266, 1267, 1268, 1269, 1270, 1271, 1272, 1273, 1274, 1275, 1276, 1277, 1278, 1279, 1280, 1281, 1282, 1283] (by decide +kernel) (by decide +kernel)
set_option maxRecDepth 20000 in
theorem gL_law_X8_go : GoodIn wsL_law (wsV RL 47 RX8 yX8_go wsX8_go) := goodIn_app (goodIn_of _ (by decide +kernel)) ggL_law_X8_go
set_option maxRecDepth 20000 in
theorem ggL_law_X7_at : GoodIn wsL_law wsX7_at := goodIn_r _ [368, 15, 184, 135, 136, 2, 137, 138, 139, 140, 141, 38, 142, 1245, 1246, 1247, 1248, 1249, 1250, 1251, 1252, 1253, 1254, 1284, 1285, 1286, 1287, 1288, 1289, 1290, 1291, 1292, 1293, 1294, 1295] (by decide +kernel) (by decide +kernel)
set_option maxRecDepth 20000 in
theorem gL_law_X7_at : GoodIn wsL_law (wsV RL 48 RX7 yX7_at wsX7_at) := goodIn_app (goodIn_of _ (by decide +kernel)) ggL_law_X7_at
set_option maxRecDepth 20000 in
theorem ggL_law_X8_at_ : GoodIn wsL_law wsX8_at_ := goodIn_r _ [372, 156, 161, 162, 5, 163, 265, 266, 267, 268, 114, 164, 165, 166, 167, 117, 1255, 1256, 1257, 1258, 1259, 1260, 1261, 1262, 1263, 1264, 1265, 1266, 1267, 1268, 1269, 1270, 1271, 1272, 1273, 1274, 1275, 1276, 1277, 1278, 1279, 1280, 1281, 1282, 1283] (by decide +kernel) (by decide +kernel)
set_option maxRecDepth 20000 in
theorem gL_law_X8_at_ : GoodIn wsL_law (wsV RL 51 RX8 yX8_at_ wsX8_at_) := goodIn_app (goodIn_of _ (by decide +kernel)) ggL_law_X8_at_
set_option maxRecDepth 20000 in
theorem ggL_law_X7_now : GoodIn wsL_law wsX7_now := goodIn_r _ [376, 15, 184, 334, 377, 317, 193, 194, 195, 14, 196, 55, 54, 52, 50, 197, 2, 198, 199, 200, 201, 202, 203, 204, 205, 206, 207, 208, 209, 210, 190, 191, 192, 47, 46, 48, 138, 139, 140, 141, 38, 142, 1245, 1246, 1247, 1248, 1249, 1250, 1251, 1252, 1253, 1254, 1284, 1285, 1286, 1287, 1288, 1289, 1290, 1291, 1292, 1293, 1294, 1295] (by decide +kernel) (by decide +kernel)
set_option maxRecDepth 20000 in
theorem gL_law_X7_now : GoodIn wsL_law (wsV RL 52 RX7 yX7_now wsX7_now) := goodIn_app (goodIn_of _ (by decide +kernel)) ggL_law_X7_now
set_option maxRecDepth 20000 in
theorem ggL_law_X8_now : GoodIn wsL_law wsX8_now := goodIn_r _ [381, 156, 114, 161, 162, 5, 163, 164, 165, 166, 167, 117, 224, 225, 226, 227, 361, 362, 363, 364, 232, 233, 234, 235, 220, 221, 222, 223, 172, 173, 174, 236, 237, 238, 239, 240, 241, 242, 243, 244, 245, 246, 247, 204, 205, 206, 248, 208, 209, 228, 229, 230, 231, 1255, 1256, 1257, 1258, 1259, 1260, 1261, 1262, 1263, 1264, 1265, 1266, 1267, 1268, 1269, 1270, 1271, 1272, 1273, 1274, 1275, 1276, 1277, 1278, 1279, 1280, 1281, 1282, 1283] (by decide +kernel) (by decide +kernel)
set_option maxRecDepth 20000 in
theorem gL_law_X8_now : GoodIn wsL_law (wsV RL 55 RX8 yX8_now wsX8_now) := goodIn_app (goodIn_of _ (by decide +kernel)) ggL_law_X8_now
set_option maxRecDepth 20000 in
theorem ggL_law_X7_met : GoodIn wsL_law wsX7_met := goodIn_r _ [385, 15, 20, 185, 186, 187, 14, 188, 52, 138, 139, 140, 2, 141, 38, 142, 386, 387, 388, 19, 389, 390, 391, 392, 393, 63, 394, 65, 66, 395, 396, 397, 398, 46, 399, 400, 401, 402, 47, 48, 49, 50, 51, 54, 55, 56, 57, 58, 403, 404, 405, 406, 53, 407, 408, 409, 410, 64, 411, 194, 195, 196, 197, 198, 199, 200, 201, 202, 203, 204, 205, 206, 207, 208, 209, 210, 190, 191, 192, 412, 341, 342, 343, 344, 345, 346, 347, 413, 414, 415, 416, 417, 418, 419, 420, 421, 422, 423, 424, 425, 426, 427, 428, 429, 430, 431, 432, 433, 434, 1245, 1246, 1247, 1248, 1249, 1250, 1251, 1252, 1253, 1254, 1284, 1285, 1286, 1287, 1288, 1289, 1290, 1291, 1292, 1293, 1294, 1295, 1296, 1297, 1298, 1299] (by decide +kernel) (by decide +kernel)
set_option maxRecDepth 20000 in
theorem gL_law_X7_met : GoodIn wsL_law (wsV RL 56 RX7 yX7_met wsX7_met) := goodIn_app (goodIn_of _ (by decide +kernel)) ggL_law_X7_met
set_option maxRecDepth 20000 in
theorem ggL_law_X8_met : GoodIn wsL_law wsX8_met := goodIn_r _ [438, 156, 439, 216, 217, 218, 5, 219, 114, 161, 162, 163, 164, 165, 166, 167, 117, 440, 441, 442, 443, 116, 444, 445, 446, 447, 448, 449, 224, 225, 226, 227, 232, 233, 234, 235, 220, 221, 222, 223, 172, 173, 174, 236, 237, 238, 239, 240, 241, 242, 243, 244, 245, 246, 247, 204, 205, 206, 248, 208, 209, 228, 229, 230, 231, 357, 358, 359, 360, 361, 362, 363, 364, 450, 451, 452, 1255, 1256, 1257, 1258, 1259, 1260, 1261, 1262, 1263, 1264, 1265, 1266, 1267, 1268, 1269, 1270, 1271, 1272, 1273, 1274, 1275, 1276, 1277, 1278, 1279, 1280, 1281, 1282, 1283] (by decide +kernel) (by decide +kernel)
set_option maxRecDepth 20000 in
theorem gL_law_X8_met : GoodIn wsL_law (wsV RL 59 RX8 yX8_met wsX8_met) := goodIn_app (goodIn_of _ (by decide +kernel)) ggL_law_X8_met
set_option maxRecDepth 20000 in
theorem ggL_law_X7_cold : GoodIn wsL_law wsX7_cold := goodIn_r _ [456, 15, 20, 185, 186, 187, 14, 188, 52, 138, 139, 140, 2, 141, 38, 142, 386, 387, 388, 19, 389, 390, 391, 392, 393, 63, 394, 65, 66, 395, 396, 397, 398, 46, 399, 400, 401, 402, 47, 48, 49, 50, 51, 54, 55, 56, 57, 58, 403, 404, 405, 406, 53, 407, 408, 409, 410, 64, 411, 194, 195, 196, 197, 198, 199, 200, 201, 202, 203, 204, 205, 206, 207, 208, 209, 210, 190, 191, 192, 412, 341, 342, 343, 344, 345, 346, 347, 457, 458, 459, 460, 418, 419, 420, 421, 422, 417, 423, 424, 425, 426, 427, 1245, 1246, 1247, 1248, 1249, 1250, 1251, 1252, 1253, 1254, 1284, 1285, 1286, 1287, 1288, 1289, 1290, 1291, 1292, 1293, 1294, 1295, 1296, 1297, 1298, 1299] (by decide +kernel) (by decide +kernel)
set_option maxRecDepth 20000 in
theorem gL_law_X7_cold : GoodIn wsL_law (wsV RL 60 RX7 yX7_cold wsX7_cold) := goodIn_app (goodIn_of _ (by decide +kernel)) ggL_law_X7_cold
set_option maxRecDepth 20000 in
theorem ggL_law_X8_cold : GoodIn wsL_law wsX8_cold := goodIn_r _ [464, 156, 444, 312, 216, 217, 218, 5, 219, 114, 161, 162, 163, 164, 165, 166, 167, 117, 440, 441, 442, 443, 116, 445, 446, 439, 447, 448, 449, 224, 225, 226, 227, 232, 233, 234, 235, 220, 221, 222, 223, 172, 173, 174, 236, 237, 238, 239, 240, 241, 242, 243, 244, 245, 246, 247, 204, 205, 206, 248, 208, 209, 228, 229, 230, 231, 357, 358, 359, 360, 361, 362, 363, 364, 450, 451, 452, 465, 466, 467, 468, 469, 1255, 1256, 1257, 1258, 1259, 1260, 1261, 1262, 1263, 1264, 1265, 1266, 1267, 1268, 1269, 1270, 1271, 1272, 1273, 1274, 1275, 1276, 1277, 1278, 1279, 1280, 1281, 1282, 1283] (by decide +kernel) (by decide +kernel)
set_option maxRecDepth 20000 in
theorem gL_law_X8_cold : GoodIn wsL_law (wsV RL 63 RX8 yX8_cold wsX8_cold) := goodIn_app (goodIn_of _ (by decide +kernel)) ggL_law_X8_cold
set_option maxRecDepth 20000 in
theorem ggL_law_X7_shade : GoodIn wsL_law wsX7_shade := goodIn_r _ [473, 15, 20, 185, 186, 187, 14, 188, 52, 138, 139, 140, 2, 141, 38, 142, 386, 387, 388, 19, 389, 390, 391, 392, 393, 63, 394, 65, 66, 395, 396, 397, 398, 46, 399, 400, 401, 402, 47, 48, 49, 50, 51, 54, 55, 56, 57, 58, 403, 404, 405, 406, 53, 407, 408, 409, 410, 64, 411, 194, 195, 196, 197, 198, 199, 200, 201, 202, 203, 204, 205, 206, 207, 208, 209, 210, 190, 191, 192, 412, 341, 342, 343, 344, 345, 346, 347, 474, 425, 426, 427, 1245, 1246, 1247, 1248, 1249, 1250, 1251, 1252, 1253, 1254, 1284, 1285, 1286, 1287, 1288, 1289, 1290, 1291, 1292, 1293, 1294, 1295, 1296, 1297, 1298, 1299] (by decide +kernel) (by decide +kernel)
set_option maxRecDepth 20000 in
theorem gL_law_X7_shade : GoodIn wsL_law (wsV RL 64 RX7 yX7_shade wsX7_shade) := goodIn_app (goodIn_of _ (by decide +kernel)) ggL_law_X7_shade
set_option maxRecDepth 20000 in
theorem ggL_law_X8_shade : GoodIn wsL_law wsX8_shade := goodIn_r _ [478, 156, 445, 216, 217, 218, 5, 219, 114, 161, 162, 163, 164, 165, 166, 167, 117, 440, 441, 442, 443, 116, 444, 446, 439, 447, 448, 449, 224, 225, 226, 227, 232, 233, 234, 235, 220, 221, 222, 223, 172, 173, 174, 236, 237, 238, 239, 240, 241, 242, 243, 244, 245, 246, 247, 204, 205, 206, 248, 208, 209, 228, 229, 230, 231, 357, 358, 359, 360, 361, 362, 363, 364, 450, 451, 452, 1255, 1256, 1257, 1258, 1259, 1260, 1261, 1262, 1263, 1264, 1265, 1266, 1267, 1268, 1269, 1270, 1271, 1272, 1273, 1274, 1275, 1276, 1277, 1278, 1279, 1280, 1281, 1282, 1283] (by decide +kernel) (by decide +kernel)
set_option maxRecDepth 20000 in
theorem gL_law_X8_shade : GoodIn wsL_law (wsV RL 67 RX8 yX8_shade wsX8_shade) := goodIn_app (goodIn_of _ (by decide +kernel)) ggL_law_X8_shade
set_option maxRecDepth 20000 in
theorem ggL_law_X7_all : GoodIn wsL_law wsX7_all := goodIn_r _ [482, 20, 15, 386, 387, 388, 19, 389, 390, 391, 392, 393, 63, 394, 65, 66, 395, 396, 397, 14, 398, 46, 399, 400, 401, 402, 47, 48, 49, 50, 51, 52, 54, 55, 56, 57, 58, 403, 404, 405, 406, 53, 407, 408, 409, 410, 64, 411, 194, 195, 196, 197, 2, 198, 199, 200, 201, 202, 203, 204, 205, 206, 207, 208, 209, 210, 190, 191, 192, 412, 341, 342, 343, 344, 345, 346, 347, 483, 484, 485, 486, 487, 488, 414, 415, 416, 417, 418, 186, 187, 188, 419, 420, 421, 422, 423, 424, 425, 426, 427, 428, 429, 430, 431, 432, 433, 434, 1245, 1246, 1247, 1248, 1249, 1250, 1251, 1252, 1253, 1254, 1296, 1297, 1298, 1299, 1284, 1285, 1286, 1287, 1288, 1289, 1290, 1291, 1292, 1293, 1294, 1295] (by decide +kernel) (by decide +kernel)
set_option maxRecDepth 20000 in
theorem gL_law_X7_all : GoodIn wsL_law (wsV RL 68 RX7 yX7_all wsX7_all) := goodIn_app (goodIn_of _ (by decide +kernel)) ggL_law_X7_all
set_option maxRecDepth 20000 in
theorem ggL_law_X8_all : GoodIn wsL_law wsX8_all := goodIn_r _ [492, 493, 494, 495, 5, 496, 114, 116, 447, 448, 449, 353, 354, 355, 356, 357, 358, 359, 360, 248, 208, 205, 209, 247, 204, 206, 361, 362, 363, 364, 232, 233, 234, 235, 220, 221, 222, 223, 172, 173, 174, 236, 237, 238, 239, 240, 241, 242, 243, 244, 245, 246, 228, 229, 230, 231, 497, 498, 499, 500, 1255, 1256, 1257, 1258, 1259, 1260, 1261, 1262, 1263, 1264, 1265, 1266, 1267, 1268, 1269, 1270, 1271, 1272, 1273, 1274, 1275, 1276, 1277, 1278, 1279, 1280, 1281, 1282, 1283] (by decide +kernel) (by decide +kernel)
set_option maxRecDepth 20000 in
theorem gL_law_X8_all : GoodIn wsL_law (wsV RL 72 RX8 yX8_all wsX8_all) := goodIn_app (goodIn_of _ (by decide +kernel)) ggL_law_X8_all
set_option maxRecDepth 20000 in
theorem ggL_law_X7_tan : GoodIn wsL_law wsX7_tan := goodIn_r _ [504, 15, 20, 185, 186, 187, 14, 188, 52, 138, 139, 140, 2, 141, 38, 142, 386, 387, 388, 19, 389, 390, 391, 392, 393, 63, 394, 65, 66, 395, 396, 397, 398, 46, 399, 400, 401, 402, 47, 48, 49, 50, 51, 54, 55, 56, 57, 58, 403, 404, 405, 406, 53, 407, 408, 409, 410, 64, 411, 194, 195, 196, 197, 198, 199, 200, 201, 202, 203, 204, 205, 206, 207, 208, 209, 210, 190, 191, 192, 412, 341, 342, 343, 344, 345, 346, 347, 505, 506, 507, 508, 509, 418, 1245, 1246, 1247, 1248, 1249, 1250, 1251, 1252, 1253, 1254, 1284, 1285, 1286, 1287, 1288, 1289, 1290, 1291, 1292, 1293, 1294, 1295, 1296, 1297, 1298, 1299] (by decide +kernel) (by decide +kernel)
set_option maxRecDepth 20000 in
theorem gL_law_X7_tan : GoodIn wsL_law (wsV RL 73 RX7 yX7_tan wsX7_tan) := goodIn_app (goodIn_of _ (by decide +kernel)) ggL_law_X7_tan
set_option maxRecDepth 20000 in
theorem ggL_law_X8_tan : GoodIn wsL_law wsX8_tan := goodIn_r _ [513, 156, 446, 216, 217, 218, 5, 219, 114, 161, 162, 163, 164, 165, 166, 167, 117, 440, 441, 442, 443, 116, 444, 445, 439, 447, 448, 449, 224, 225, 226, 227, 232, 233, 234, 235, 220, 221, 222, 223, 172, 173, 174, 236, 237, 238, 239, 240, 241, 242, 243, 244, 245, 246, 247, 204, 205, 206, 248, 208, 209, 228, 229, 230, 231, 357, 358, 359, 360, 361, 362, 363, 364, 450, 451, 452, 1255, 1256, 1257, 1258, 1259, 1260, 1261, 1262, 1263, 1264, 1265, 1266, 1267, 1268, 1269, 1270, 1271, 1272, 1273, 1274, 1275, 1276, 1277, 1278, 1279, 1280, 1281, 1282, 1283] (by decide +kernel) (by decide +kernel)
set_option maxRecDepth 20000 in
theorem gL_law_X8_tan : GoodIn wsL_law (wsV RL 76 RX8 yX8_tan wsX8_tan) := goodIn_app (goodIn_of _ (by decide +kernel)) ggL_law_X8_tan
