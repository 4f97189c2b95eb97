theorem i10 : ((1 : Int32) = 0) = False := eq_false (by decide)
def nthN : List Nat → Nat → Nat
  | [], _ => 0
  | x :: _, 0 => x
  | _ :: xs, n + 1 => nthN xs n
def nthL : List (List Nat) → Nat → List Nat
  | [], _ => []
  | x :: _, 0 => x
  | _ :: xs, n + 1 => nthL xs n
def at2 (L : List (List Nat)) (i : Nat) : Nat := nthN (nthL L (i / 24)) (i % 24)
def cM : List (List Nat) := [[1672, 1676, 1665, 1616, 1224, 1697, 1669, 1553, 1620, 1602, 720, 1228, 1217, 1112, 1701, 1809, 1704, 1557, 1546, 209, 1634, 1606, 724, 706], [664, 1249, 1221, 1049, 1116, 1091, 1813, 1802, 2257, 1708, 1872, 1578, 1550, 213, 202, 153, 1638, 1648, 738, 710, 538, 668, 643, 1253], [1305, 1256, 1053, 1035, 1123, 1095, 1834, 1806, 2261, 2250, 2201, 1876, 1858, 2768, 1582, 1585, 234, 206, 90, 157, 139, 1652, 1928, 742], [794, 752, 542, 531, 675, 647, 1309, 1291, 1260, 1368, 1067, 1039, 1127, 1144, 1838, 1841, 2282, 2254, 2138, 2205, 2187, 1890, 1862, 2772], [2754, 2712, 1589, 238, 346, 241, 94, 83, 171, 143, 1932, 1921, 3272, 798, 787, 756, 920, 563, 535, 679, 696, 1323, 1295, 1372], [1347, 1071, 1081, 1148, 1480, 1845, 2286, 2394, 2289, 2142, 2131, 2219, 2191, 1894, 1904, 2786, 2758, 2586, 2716, 2691, 350, 339, 245, 409], [115, 87, 175, 185, 1953, 1925, 3276, 3265, 3160, 819, 791, 924, 899, 567, 570, 700, 976, 1327, 1337, 1379, 1351, 1085, 1484, 1473], [3720, 2398, 2387, 2293, 2457, 2163, 2135, 2223, 2233, 1908, 2790, 2842, 2800, 2590, 2579, 2723, 2695, 371, 343, 413, 395, 119, 122, 189], [465, 1957, 1960, 3297, 3269, 3097, 3164, 3139, 823, 826, 931, 903, 574, 980, 962, 1341, 1383, 1400, 1505, 1477, 3724, 3713, 3664, 2419], [2391, 2461, 2443, 2167, 2170, 2237, 2513, 2846, 2835, 2804, 2968, 2611, 2583, 2727, 2744, 375, 378, 427, 399, 126, 469, 458, 1964, 3301], [3353, 3304, 3101, 3083, 3171, 3143, 830, 935, 952, 994, 966, 1404, 1509, 1512, 3745, 3717, 3601, 3668, 3650, 2423, 2426, 2475, 2447, 2174], [2517, 2506, 2867, 2839, 2972, 2947, 2615, 2618, 2748, 3024, 382, 431, 441, 490, 462, 3357, 3339, 3308, 3416, 3115, 3087, 3175, 3192, 956], [998, 1008, 1516, 3749, 3857, 3752, 3605, 3594, 3682, 3654, 2430, 2479, 2489, 2538, 2510, 2871, 2874, 2979, 2951, 2622, 3028, 3010, 445, 494], [497, 3371, 3343, 3420, 3395, 3119, 3129, 3196, 3528, 1012, 3861, 3850, 3756, 3920, 3626, 3598, 3686, 3696, 2493, 2542, 2545, 2878, 2983, 3000], [3042, 3014, 501, 3375, 3385, 3427, 3399, 3133, 3532, 3521, 3882, 3854, 3924, 3906, 3630, 3633, 3700, 3976, 2549, 3004, 3046, 3056, 3389, 3431], [3448, 3553, 3525, 3886, 3889, 3938, 3910, 3637, 3980, 3969, 3060, 3452, 3557, 3560, 3893, 3942, 3952, 4001, 3973, 3564, 3956, 4005, 4008, 4012]]
def cD : List (List Nat) := [[0, 1, 1, 1, 1, 2, 2, 2, 2, 2, 2, 2, 2, 2, 3, 3, 3, 3, 3, 3, 3, 3, 3, 3], [3, 3, 3, 3, 3, 3, 4, 4, 4, 4, 4, 4, 4, 4, 4, 4, 4, 4, 4, 4, 4, 4, 4, 4], [4, 4, 4, 4, 4, 4, 5, 5, 5, 5, 5, 5, 5, 5, 5, 5, 5, 5, 5, 5, 5, 5, 5, 5], [5, 5, 5, 5, 5, 5, 5, 5, 5, 5, 5, 5, 5, 5, 6, 6, 6, 6, 6, 6, 6, 6, 6, 6], [6, 6, 6, 6, 6, 6, 6, 6, 6, 6, 6, 6, 6, 6, 6, 6, 6, 6, 6, 6, 6, 6, 6, 6], [6, 6, 6, 6, 6, 7, 7, 7, 7, 7, 7, 7, 7, 7, 7, 7, 7, 7, 7, 7, 7, 7, 7, 7], [7, 7, 7, 7, 7, 7, 7, 7, 7, 7, 7, 7, 7, 7, 7, 7, 7, 7, 7, 7, 7, 7, 7, 7], [7, 8, 8, 8, 8, 8, 8, 8, 8, 8, 8, 8, 8, 8, 8, 8, 8, 8, 8, 8, 8, 8, 8, 8], [8, 8, 8, 8, 8, 8, 8, 8, 8, 8, 8, 8, 8, 8, 8, 8, 8, 8, 8, 8, 8, 8, 8, 9], [9, 9, 9, 9, 9, 9, 9, 9, 9, 9, 9, 9, 9, 9, 9, 9, 9, 9, 9, 9, 9, 9, 9, 9], [9, 9, 9, 9, 9, 9, 9, 9, 9, 9, 9, 9, 9, 9, 9, 9, 9, 9, 9, 10, 10, 10, 10, 10], [10, 10, 10, 10, 10, 10, 10, 10, 10, 10, 10, 10, 10, 10, 10, 10, 10, 10, 10, 10, 10, 10, 10, 10], [10, 10, 10, 10, 10, 10, 10, 10, 10, 10, 11, 11, 11, 11, 11, 11, 11, 11, 11, 11, 11, 11, 11, 11], [11, 11, 11, 11, 11, 11, 11, 11, 11, 11, 11, 11, 11, 11, 11, 11, 11, 11, 12, 12, 12, 12, 12, 12], [12, 12, 12, 12, 12, 12, 12, 12, 12, 12, 12, 12, 12, 12, 12, 12, 12, 12, 13, 13, 13, 13, 13, 13], [13, 13, 13, 13, 13, 13, 13, 13, 13, 13, 14, 14, 14, 14, 14, 14, 14, 14, 14, 15, 15, 15, 15, 16]]
def cC : List (List Nat) := [[1, 2, 3, 4, 5, 5, 6, 6, 6, 7, 7, 8, 8, 9, 10, 10, 11, 12, 13, 14, 14, 15, 15, 16], [16, 16, 17, 17, 17, 18, 19, 19, 20, 20, 21, 21, 21, 22, 22, 22, 22, 23, 24, 25, 25, 25, 26, 26], [26, 27, 27, 28, 28, 29, 30, 30, 30, 30, 30, 30, 30, 31, 32, 32, 33, 34, 34, 35, 35, 35, 36, 36], [36, 37, 37, 37, 37, 38, 39, 40, 40, 41, 41, 41, 41, 41, 42, 42, 42, 42, 43, 43, 43, 44, 44, 45], [45, 46, 47, 47, 47, 48, 48, 49, 49, 49, 50, 50, 50, 51, 52, 52, 52, 52, 53, 53, 53, 54, 54, 54], [54, 54, 55, 55, 55, 56, 56, 56, 56, 57, 58, 59, 59, 59, 59, 59, 59, 60, 61, 61, 62, 63, 63, 63], [63, 63, 64, 64, 64, 64, 65, 65, 65, 66, 66, 67, 67, 68, 69, 69, 69, 69, 69, 69, 69, 70, 70, 71], [71, 72, 72, 73, 73, 73, 74, 74, 74, 75, 76, 76, 76, 76, 77, 77, 77, 78, 78, 78, 78, 78, 78, 78], [78, 79, 80, 80, 80, 81, 81, 82, 82, 82, 83, 83, 83, 84, 84, 84, 84, 85, 85, 85, 85, 85, 86, 86], [86, 87, 87, 87, 87, 87, 88, 88, 88, 88, 89, 89, 89, 90, 90, 91, 91, 92, 93, 93, 93, 93, 94, 94], [94, 95, 95, 95, 95, 96, 97, 98, 98, 98, 98, 98, 98, 99, 99, 99, 99, 100, 100, 101, 101, 101, 102, 102], [102, 103, 104, 104, 104, 104, 105, 105, 105, 106, 106, 106, 106, 106, 106, 106, 106, 107, 108, 108, 109, 109, 109, 109], [109, 110, 111, 111, 111, 112, 112, 113, 113, 113, 114, 114, 114, 115, 115, 115, 115, 116, 116, 116, 116, 116, 117, 117], [117, 117, 118, 118, 118, 119, 119, 119, 119, 119, 119, 119, 119, 120, 121, 121, 121, 122, 122, 122, 122, 122, 123, 123], [123, 123, 123, 123, 123, 124, 124, 125, 125, 125, 125, 125, 125, 126, 126, 126, 126, 127, 127, 128, 128, 128, 129, 129], [129, 130, 131, 131, 131, 131, 132, 132, 132, 133, 133, 133, 133, 134, 134, 134, 134, 134, 135, 135, 135, 135, 136, 136], [136, 137, 137, 138, 138, 139, 140, 140, 140, 140, 140, 140, 140, 140, 140, 140, 140, 141, 142, 142, 142, 143, 143, 144], [144, 144, 145, 145, 145, 146, 146, 146, 146, 147, 147, 147, 147, 147, 148, 148, 148, 148, 149, 149, 149, 150, 150, 150], [150, 151, 152, 153, 153, 153, 154, 154, 154, 155, 155, 155, 155, 155, 155, 155, 155, 156, 157, 157, 157, 158, 158, 158], [158, 158, 159, 159, 159, 159, 159, 159, 159, 160, 160, 161, 161, 162, 162, 162, 162, 162, 163, 163, 163, 163, 164, 164], [164, 165, 165, 165, 165, 165, 165, 165, 165, 166, 166, 166, 166, 166, 166, 166, 166, 167, 168, 168, 169, 169, 169, 169], [169, 169, 169, 169, 169, 170, 171, 171, 171, 172, 172, 173, 173, 173, 174, 174, 174, 175, 175, 175, 175, 176, 176, 176], [176, 176, 177, 177, 177, 177, 177, 177, 177, 178, 178, 178, 178, 179, 179, 180, 180, 180, 181, 181, 181, 182, 183, 183], [183, 183, 184, 184, 184, 185, 185, 185, 185, 185, 186, 186, 186, 187, 187, 187, 187, 187, 187, 187, 187, 188, 189, 189], [189, 190, 190, 190, 190, 190, 191, 191, 191, 191, 191, 191, 191, 192, 192, 193, 193, 194, 194, 194, 194, 194, 195, 195], [195, 195, 196, 196, 196, 197, 197, 198, 198, 199, 200, 200, 200, 201, 201, 201, 201, 201, 202, 202, 202, 202, 203, 203], [203, 204, 204, 204, 204, 204, 204, 204, 204, 205, 205, 205, 205, 205, 205, 205, 205, 206, 207, 207, 207, 207, 207, 207], [207, 208, 208, 208, 208, 209, 209, 209, 209, 209, 210, 210, 210, 210, 210, 210, 210, 210, 211, 211, 211, 212, 212, 212], [212, 213, 214, 215, 215, 215, 216, 216, 216, 217, 217, 217, 217, 217, 217, 217, 217, 218, 219, 219, 219, 220, 220, 220], [220, 220, 221, 221, 221, 221, 221, 221, 221, 222, 222, 223, 223, 223, 223, 223, 223, 223, 223, 223, 223, 224, 225, 225], [225, 226, 226, 227, 227, 227, 228, 228, 228, 229, 229, 229, 229, 230, 230, 230, 230, 230, 231, 231, 231, 232, 232, 232], [232, 232, 233, 233, 233, 233, 234, 234, 234, 235, 235, 235, 235, 235, 235, 235, 235, 236, 236, 236, 236, 236, 236, 236], [236, 237, 238, 238, 238, 238, 238, 238, 238, 239, 239, 239, 239, 240, 240, 241, 241, 241, 242, 242, 242, 243, 244, 244], [244, 244, 245, 245, 245, 246, 246, 246, 246, 246, 246, 246, 246, 247, 247, 247, 247, 248, 248, 248, 248, 248, 249, 249], [249, 249, 249, 249, 249, 249, 250, 250, 250, 251, 251, 251, 251, 251, 251, 251, 251, 251, 251, 251, 251, 252, 252, 252], [252, 253, 253, 253, 253, 253, 254, 254, 254, 254, 255, 255, 255, 256, 256, 257, 257, 258, 259, 259, 259, 260, 260, 260], [260, 260, 261, 261, 261, 261, 262, 262, 262, 263, 263, 263, 263, 263, 263, 263, 263, 264, 264, 264, 264, 264, 264, 264], [264, 265, 266, 266, 266, 266, 267, 267, 267, 268, 268, 268, 268, 268, 268, 268, 268, 269, 270, 270, 270, 271, 271, 271], [271, 271, 272, 272, 272, 272, 272, 272, 272, 273, 273, 274, 274, 274, 274, 274, 274, 275, 275, 275, 275, 276, 276, 276], [276, 276, 277, 277, 277, 277, 277, 277, 277, 277, 278, 278, 278, 279, 279, 279, 279, 279, 279, 279, 279, 279, 279, 279], [279, 280, 281, 281, 281, 282, 282, 283, 283, 283, 284, 284, 284, 285, 285, 285, 285, 286, 286, 286, 286, 286, 287, 287], [287, 287, 287, 287, 287, 287, 287, 287, 287, 288, 288, 288, 288, 289, 289, 289, 289, 289, 290, 290, 290, 290, 290, 290], [290, 290, 290, 290, 290, 291, 291, 291, 291, 292, 292, 293, 293, 293, 294, 294, 294, 295, 296, 296, 296, 296, 297, 297], [297, 298, 298, 298, 298, 298, 298, 298, 298, 299, 299, 299, 299, 300, 300, 300, 300, 300, 301, 301, 301, 301, 301, 301], [301, 301, 302, 302, 302, 303, 303, 303, 303, 304, 304, 304, 304, 304, 305, 305, 305, 305, 306, 306, 306, 307, 307, 307], [307, 307, 307, 307, 307, 308, 308, 308, 308, 308, 308, 308, 308, 309, 310, 310, 310, 310, 310, 310, 310, 310, 310, 310], [310, 311, 311, 311, 311, 312, 312, 312, 312, 312, 313, 313, 313, 313, 314, 314, 314, 315, 315, 315, 315, 315, 315, 315], [315, 316, 317, 317, 317, 318, 318, 318, 318, 318, 319, 319, 319, 319, 319, 319, 319, 320, 320, 321, 321, 321, 321, 321], [321, 321, 321, 321, 321, 322, 322, 322, 322, 322, 322, 322, 322, 322, 322, 322, 322, 323, 324, 324, 324, 325, 325, 326], [326, 326, 327, 327, 327, 328, 328, 328, 328, 329, 329, 329, 329, 329, 330, 330, 330, 330, 330, 330, 330, 330, 330, 330], [330, 331, 331, 331, 331, 332, 332, 332, 332, 332, 333, 333, 333, 333, 333, 333, 333, 334, 334, 334, 334, 335, 335, 335], [335, 335, 336, 336, 336, 336, 336, 336, 336, 336, 337, 337, 337, 338, 338, 338, 338, 338, 338, 338, 338, 338, 338, 338], [338, 339, 339, 339, 339, 340, 340, 340, 340, 340, 341, 341, 341, 341, 342, 342, 342, 343, 343, 343, 343, 343, 343, 343], [343, 344, 344, 344, 344, 344, 344, 344, 344, 345, 346, 346, 346, 346, 346, 346, 346, 346, 347, 347, 347, 348, 348, 348], [348, 348, 348, 348, 348, 349, 350, 350, 350, 351, 351, 351, 351, 351, 352, 352, 352, 352, 352, 352, 352, 353, 353, 354], [354, 354, 354, 354, 354, 354, 354, 354, 354, 355, 355, 355, 355, 355, 355, 355, 355, 355, 355, 355, 355, 356, 356, 356], [356, 357, 357, 357, 357, 357, 358, 358, 358, 358, 358, 358, 358, 358, 358, 358, 358, 359, 359, 359, 359, 360, 360, 360], [360, 360, 361, 361, 361, 361, 361, 361, 361, 361, 362, 362, 362, 363, 363, 363, 363, 364, 364, 364, 364, 364, 365, 365], [365, 365, 366, 366, 366, 367, 367, 367, 367, 367, 367, 367, 367, 368, 368, 368, 368, 368, 368, 368, 368, 369, 370, 370], [370, 370, 370, 370, 370, 370, 370, 370, 370, 370, 370, 370, 370, 371, 371, 371, 371, 371, 371, 371, 371, 371, 371, 371], [371, 372, 372, 372, 372, 373, 373, 373, 373, 373, 374, 374, 374, 374, 374, 374, 374, 375, 375, 375, 375, 376, 376, 376], [376, 376, 377, 377, 377, 377, 377, 377, 377, 377, 378, 378, 378, 379, 379, 379, 379, 379, 379, 379, 379, 379, 379, 379], [379, 379, 379, 379, 379, 380, 380, 380, 380, 380, 380, 380, 380, 380, 380, 380, 380, 381, 381, 381, 381, 382, 382, 382], [382, 382, 383, 383, 383, 383, 383, 383, 383, 383, 383, 383, 383, 383, 383, 383, 383, 384, 384, 384, 384, 384, 384, 384], [384]]
def wM (j : Nat) : Nat := at2 cM j
def wD (j : Nat) : Nat := at2 cD j
def wCn (s : Nat) : Nat := at2 cC s
def okW (s : Nat) : Bool :=
  let k := s / 4
  let c := s % 4
  let m := wCn s
  let r := F_X3_folded (nI (wM k)) (nI c)
  decide (k < m) && decide (m ≤ 384) && (if F_X3_firstShortening r = nI c then decide (m < 384) && decide (wCn (s + 1) = m + 1) && decide (r = nI (wM m)) && decide (wD m = wD k + 1) && decide (wD m < 21) else decide (wCn (s + 1) = m))
theorem pf_walk : (List.range 1536).all okW = true := by decide +kernel
def cW (d : Nat) : Nat → Nat
  | 0 => 0
  | m + 1 => cW d m + (if wD m = d then 1 else 0)
theorem pf_cW : (List.range 21).all (fun d => decide (cW d 384 = liesOf d)) = true := by decide +kernel
theorem wCn_0 : wCn 0 = 1 := by decide +kernel
theorem wCn_end : wCn 1536 = 384 := by decide +kernel
theorem wM_0 : wM 0 = 1672 := by decide +kernel
theorem wD_0 : wD 0 = 0 := by decide +kernel
def WI (m : Nat) (me fo fd : Nat → Int32) : Prop := (∀ j, j < m → me j = nI (wM j) ∧ fo j = nI (wD j)) ∧ ∀ d, d < 21 → fd d = nI (cW d m)
theorem meet_ok {m : Nat} (hm : m < 384) {me fo fd : Nat → Int32} (h : WI m me fo fd) {r : Int32} {e : Nat} (hr : r = nI (wM m)) (he : wD m = e) (he21 : e < 21) : P_X9_meet me fo fd (nI m) r (nI e) ∧ (F_X9_meet me fo fd (nI m) r (nI e)).2.2.2 = nI (m + 1) ∧ WI (m + 1) (F_X9_meet me fo fd (nI m) r (nI e)).1 (F_X9_meet me fo fd (nI m) r (nI e)).2.1 (F_X9_meet me fo fd (nI m) r (nI e)).2.2.1 := by
  have a0 : ¬ nI m < 0 := nI_nneg (by omega)
  have a1 : ¬ (384 : Int32) ≤ nI m := nI_ge (b := 384) hm (by decide)
  have a2 : ¬ nI e < 0 := nI_nneg (by omega)
  have a3 : ¬ (21 : Int32) ≤ nI e := nI_ge (b := 21) he21 (by decide)
  have eF : F_X9_meet me fo fd (nI m) r (nI e) = (upd me m r, upd fo m (nI e), upd fd e (fd e + 1), nI (m + 1)) := by
    unfold F_X9_meet
    simp only [if_neg a0, if_neg a1, if_neg a2, if_neg a3, i10, if_false, nI_clamp (n := m) (by omega), nI_clamp (n := e) (by omega), nI_1]
  rw [eF]
  refine ⟨?_, rfl, fun j hj => ?_, fun d hd => ?_⟩
  · unfold P_X9_meet
    simp only [forall_eq, if_neg a0, if_neg a1]
    exact ⟨fun _ => trivial, fun _ => ⟨fun _ => trivial, fun _ => ⟨fun _ => trivial, fun _ => ⟨vp_in_nI hm (by decide), vp_in_nI hm (by decide), vp_in_nI he21 (by decide), vp_in_nI he21 (by decide)⟩⟩⟩⟩
  · dsimp only
    by_cases q : j = m
    · rw [q, upd_same, upd_same, he]
      exact ⟨hr, rfl⟩
    · rw [upd_ne _ q, upd_ne _ q]
      exact h.1 j (by omega)
  · dsimp only
    rw [cW, he]
    by_cases q : d = e
    · rw [q, upd_same, if_pos rfl, h.2 e he21, nI_1]
    · rw [upd_ne _ q, if_neg (fun z => q z.symm), h.2 d hd, Nat.add_zero]
theorem walk_sub {k c : Nat} (hk : k < 384) (hc : c < 4) {me fo fd : Nat → Int32} (h : WI (wCn (4 * k + c)) me fo fd) : (me k = nI (wM k) ∧ fo k = nI (wD k)) ∧ (F_X3_firstShortening (F_X3_folded (nI (wM k)) (nI c)) = nI c → P_X9_meet me fo fd (nI (wCn (4 * k + c))) (F_X3_folded (nI (wM k)) (nI c)) (nI (wD k) + 1) ∧ (F_X9_meet me fo fd (nI (wCn (4 * k + c))) (F_X3_folded (nI (wM k)) (nI c)) (nI (wD k) + 1)).2.2.2 = nI (wCn (4 * k + c + 1)) ∧ WI (wCn (4 * k + c + 1)) (F_X9_meet me fo fd (nI (wCn (4 * k + c))) (F_X3_folded (nI (wM k)) (nI c)) (nI (wD k) + 1)).1 (F_X9_meet me fo fd (nI (wCn (4 * k + c))) (F_X3_folded (nI (wM k)) (nI c)) (nI (wD k) + 1)).2.1 (F_X9_meet me fo fd (nI (wCn (4 * k + c))) (F_X3_folded (nI (wM k)) (nI c)) (nI (wD k) + 1)).2.2.1) ∧ (¬ F_X3_firstShortening (F_X3_folded (nI (wM k)) (nI c)) = nI c → wCn (4 * k + c + 1) = wCn (4 * k + c)) ∧ k < wCn (4 * k + c) := by
  have H := List.all_eq_true.mp pf_walk (4 * k + c) (List.mem_range.mpr (by omega))
  unfold okW at H
  rw [show (4 * k + c) / 4 = k by omega, show (4 * k + c) % 4 = c by omega] at H
  simp only [Bool.and_eq_true, decide_eq_true_eq] at H
  obtain ⟨⟨h1, h2⟩, h3⟩ := H
  refine ⟨h.1 k h1, fun q => ?_, fun q => ?_, h1⟩
  · rw [if_pos q] at h3
    simp only [Bool.and_eq_true, decide_eq_true_eq] at h3
    obtain ⟨⟨⟨⟨b1, b2⟩, b3⟩, b4⟩, b5⟩ := h3
    rw [nI_1, b2]
    exact meet_ok b1 h b3 b4 (by omega)
  · rw [if_neg q, decide_eq_true_eq] at h3
    exact h3
def wsx (me fo fd : Nat → Int32) (kn : Int32) (j : Nat) (c : Int32) : (Nat → Int32) × (Nat → Int32) × (Nat → Int32) × Int32 := if F_X3_firstShortening (F_X3_folded (me j) c) = c then F_X9_meet me fo fd kn (F_X3_folded (me j) c) (fo j + 1) else (me, fo, fd, kn)
theorem wsx1 (me fo fd : Nat → Int32) (kn : Int32) (j : Nat) (c : Int32) : (wsx me fo fd kn j c).1 = if F_X3_firstShortening (F_X3_folded (me j) c) = c then (F_X9_meet me fo fd kn (F_X3_folded (me j) c) (fo j + 1)).1 else me := by unfold wsx; split <;> rfl
theorem wsx2 (me fo fd : Nat → Int32) (kn : Int32) (j : Nat) (c : Int32) : (wsx me fo fd kn j c).2.1 = if F_X3_firstShortening (F_X3_folded (me j) c) = c then (F_X9_meet me fo fd kn (F_X3_folded (me j) c) (fo j + 1)).2.1 else fo := by unfold wsx; split <;> rfl
theorem wsx3 (me fo fd : Nat → Int32) (kn : Int32) (j : Nat) (c : Int32) : (wsx me fo fd kn j c).2.2.1 = if F_X3_firstShortening (F_X3_folded (me j) c) = c then (F_X9_meet me fo fd kn (F_X3_folded (me j) c) (fo j + 1)).2.2.1 else fd := by unfold wsx; split <;> rfl
theorem wsx4 (me fo fd : Nat → Int32) (kn : Int32) (j : Nat) (c : Int32) : (wsx me fo fd kn j c).2.2.2 = if F_X3_firstShortening (F_X3_folded (me j) c) = c then (F_X9_meet me fo fd kn (F_X3_folded (me j) c) (fo j + 1)).2.2.2 else kn := by unfold wsx; split <;> rfl
theorem wsx_ok {k c : Nat} (hk : k < 384) (hc : c < 4) {me fo fd : Nat → Int32} {kn C : Int32} {m m' : Nat} (em : m = wCn (4 * k + c)) (em' : m' = wCn (4 * k + c + 1)) (eC : C = nI c) (ekn : kn = nI m) (h : WI m me fo fd) : (F_X3_firstShortening (F_X3_folded (me k) C) = C → P_X9_meet me fo fd kn (F_X3_folded (me k) C) (fo k + 1)) ∧ (wsx me fo fd kn k C).2.2.2 = nI m' ∧ WI m' (wsx me fo fd kn k C).1 (wsx me fo fd kn k C).2.1 (wsx me fo fd kn k C).2.2.1 := by
  rw [em] at h ekn
  rw [em', eC, ekn]
  obtain ⟨⟨a1, a2⟩, a3, a4, -⟩ := walk_sub hk hc h
  rw [a1, a2]
  refine ⟨fun q => (a3 q).1, ?_⟩
  unfold wsx
  rw [a1, a2]
  by_cases q : F_X3_firstShortening (F_X3_folded (nI (wM k)) (nI c)) = nI c
  · rw [if_pos q]
    exact (a3 q).2
  · rw [if_neg q, a4 q]
    exact ⟨rfl, h⟩
theorem walk_loop : ∀ (t k : Nat), k + t = 384 → ∀ (fuel : Nat) (me fo fd : Nat → Int32), t < fuel → WI (wCn (4 * k)) me fo fd → P_X9_go_L10 fuel me fo fd (nI (wCn (4 * k))) (nI k) ∧ (F_X9_go_L10 fuel me fo fd (nI (wCn (4 * k))) (nI k)).2.2.2.1 = nI 384 ∧ WI 384 (F_X9_go_L10 fuel me fo fd (nI (wCn (4 * k))) (nI k)).1 (F_X9_go_L10 fuel me fo fd (nI (wCn (4 * k))) (nI k)).2.1 (F_X9_go_L10 fuel me fo fd (nI (wCn (4 * k))) (nI k)).2.2.1 := by
  intro t
  induction t with
  | zero =>
    intro k hk fuel me fo fd hf h
    obtain ⟨f, rfl⟩ : ∃ f, fuel = f + 1 := ⟨fuel - 1, by omega⟩
    have hk384 : k = 384 := by omega
    subst hk384
    rw [show wCn (4 * 384) = 384 from wCn_end] at h ⊢
    have h1 : nI 384 ≤ nI 384 := by decide
    rw [P_X9_go_L10, F_X9_go_L10, if_pos h1]
    exact ⟨⟨fun _ => trivial, fun q => absurd h1 q⟩, rfl, h⟩
  | succ t ih =>
    intro k hk fuel me fo fd hf h
    obtain ⟨f, rfl⟩ : ∃ f, fuel = f + 1 := ⟨fuel - 1, by omega⟩
    have hk4 : k < 384 := by omega
    have H := List.all_eq_true.mp pf_walk (4 * k) (List.mem_range.mpr (by omega))
    have h1 : ¬ nI (wCn (4 * k)) ≤ nI k := by
      unfold okW at H
      simp only [Bool.and_eq_true, decide_eq_true_eq] at H
      obtain ⟨⟨b1, b2⟩, -⟩ := H
      exact nI_ge (by omega) (by omega)
    have h2 : ¬ (384 : Int32) ≤ nI k := nI_ge (b := 384) hk4 (by decide)
    have vk : vp_in (nI k) 384 := vp_in_nI hk4 (by decide)
    obtain ⟨a1, ea1⟩ : ∃ x, x = (wsx me fo fd (nI (wCn (4 * k))) k 0).1 := ⟨_, rfl⟩
    obtain ⟨b1, eb1⟩ : ∃ x, x = (wsx me fo fd (nI (wCn (4 * k))) k 0).2.1 := ⟨_, rfl⟩
    obtain ⟨c1, ec1⟩ : ∃ x, x = (wsx me fo fd (nI (wCn (4 * k))) k 0).2.2.1 := ⟨_, rfl⟩
    obtain ⟨d1, ed1⟩ : ∃ x, x = (wsx me fo fd (nI (wCn (4 * k))) k 0).2.2.2 := ⟨_, rfl⟩
    have S0 := wsx_ok (C := 0) (m := wCn (4 * k)) (kn := nI (wCn (4 * k))) hk4 (c := 0) (by decide) rfl rfl rfl rfl h
    rw [← ea1, ← eb1, ← ec1, ← ed1] at S0
    obtain ⟨a2, ea2⟩ : ∃ x, x = (wsx a1 b1 c1 d1 k 1).1 := ⟨_, rfl⟩
    obtain ⟨b2, eb2⟩ : ∃ x, x = (wsx a1 b1 c1 d1 k 1).2.1 := ⟨_, rfl⟩
    obtain ⟨c2, ec2⟩ : ∃ x, x = (wsx a1 b1 c1 d1 k 1).2.2.1 := ⟨_, rfl⟩
    obtain ⟨d2, ed2⟩ : ∃ x, x = (wsx a1 b1 c1 d1 k 1).2.2.2 := ⟨_, rfl⟩
    have S1 := wsx_ok (C := 1) hk4 (c := 1) (by decide) rfl rfl rfl S0.2.1 S0.2.2
    rw [← ea2, ← eb2, ← ec2, ← ed2] at S1
    obtain ⟨a3, ea3⟩ : ∃ x, x = (wsx a2 b2 c2 d2 k 2).1 := ⟨_, rfl⟩
    obtain ⟨b3, eb3⟩ : ∃ x, x = (wsx a2 b2 c2 d2 k 2).2.1 := ⟨_, rfl⟩
    obtain ⟨c3, ec3⟩ : ∃ x, x = (wsx a2 b2 c2 d2 k 2).2.2.1 := ⟨_, rfl⟩
    obtain ⟨d3, ed3⟩ : ∃ x, x = (wsx a2 b2 c2 d2 k 2).2.2.2 := ⟨_, rfl⟩
    have S2 := wsx_ok (C := 2) hk4 (c := 2) (by decide) rfl rfl rfl S1.2.1 S1.2.2
    rw [← ea3, ← eb3, ← ec3, ← ed3] at S2
    obtain ⟨a4, ea4⟩ : ∃ x, x = (wsx a3 b3 c3 d3 k 3).1 := ⟨_, rfl⟩
    obtain ⟨b4, eb4⟩ : ∃ x, x = (wsx a3 b3 c3 d3 k 3).2.1 := ⟨_, rfl⟩
    obtain ⟨c4, ec4⟩ : ∃ x, x = (wsx a3 b3 c3 d3 k 3).2.2.1 := ⟨_, rfl⟩
    obtain ⟨d4, ed4⟩ : ∃ x, x = (wsx a3 b3 c3 d3 k 3).2.2.2 := ⟨_, rfl⟩
    have S3 := wsx_ok (C := 3) hk4 (c := 3) (by decide) rfl rfl rfl S2.2.1 S2.2.2
    rw [← ea4, ← eb4, ← ec4, ← ed4] at S3
    have S4 := S3.2.2
    rw [show 4 * k + 3 + 1 = 4 * (k + 1) by omega] at S4
    have K := ih (k + 1) (by omega) f a4 b4 c4 (by omega) S4
    have e4 : wCn (4 * k + 3 + 1) = wCn (4 * (k + 1)) := by congr 1
    rw [← e4, ← S3.2.1] at K
    rw [P_X9_go_L10, F_X9_go_L10, if_neg h1, if_neg h2]
    simp only [forall_eq, nI_clamp (n := k) (by omega), nI_1, ← wsx1, ← wsx2, ← wsx3, ← wsx4, ← ea1, ← eb1, ← ec1, ← ed1, ← ea2, ← eb2, ← ec2, ← ed2, ← ea3, ← eb3, ← ec3, ← ed3, ← ea4, ← eb4, ← ec4, ← ed4]
    exact ⟨⟨fun q => absurd q h1, fun _ => ⟨fun q => absurd q h2, fun _ => ⟨vk, ⟨fun q => ⟨vk, S0.1 q⟩, fun _ => trivial⟩, vk, ⟨fun q => ⟨vk, S1.1 q⟩, fun _ => trivial⟩, vk, ⟨fun q => ⟨vk, S2.1 q⟩, fun _ => trivial⟩, vk, ⟨fun q => ⟨vk, S3.1 q⟩, fun _ => trivial⟩, K.1⟩⟩⟩, K.2⟩
theorem lies_ok {ffd fme ffo : Nat → Int32} {kn : Int32} (h : WalkR ffd kn) {d : Nat} (hd : d < 21) : P_X9_liesAfter fme ffo ffd kn (nI d) ∧ (F_X9_liesAfter fme ffo ffd kn (nI d)).1 = nI (liesOf d) ∧ WalkR (F_X9_liesAfter fme ffo ffd kn (nI d)).2.2.2.1 (F_X9_liesAfter fme ffo ffd kn (nI d)).2.2.2.2 := by
  have h0 : ¬ nI d < 0 := nI_nneg (by omega)
  have h1 : ¬ (21 : Int32) ≤ nI d := nI_ge (b := 21) hd (by decide)
  rcases h with ⟨e, hz⟩ | ⟨e, hz⟩
  · subst e
    have W0 : WI 0 fme ffo ffd := ⟨fun j hj => absurd hj (Nat.not_lt_zero _), fun d hd => by rw [hz d hd]; rfl⟩
    have ME := meet_ok (m := 0) (by decide) W0 (r := 1672) (e := 0) (by rw [wM_0]; rfl) wD_0 (by decide)
    rw [show nI 0 = 0 from rfl] at ME
    have L := walk_loop 384 0 (by omega) 386 _ _ _ (by omega) (by rw [show wCn (4 * 0) = 0 + 1 from wCn_0]; exact ME.2.2)
    rw [show wCn (4 * 0) = 0 + 1 from wCn_0, ← ME.2.1, show nI 0 = 0 from rfl] at L
    have eg : (F_X9_go fme ffo ffd 0).2.2.1 = (F_X9_go_L10 386 (F_X9_meet fme ffo ffd 0 1672 0).1 (F_X9_meet fme ffo ffd 0 1672 0).2.1 (F_X9_meet fme ffo ffd 0 1672 0).2.2.1 (F_X9_meet fme ffo ffd 0 1672 0).2.2.2 0).2.2.1 := by
      unfold F_X9_go
      dsimp only
    have ek : (F_X9_go fme ffo ffd 0).2.2.2 = nI 384 := by
      unfold F_X9_go
      dsimp only
      exact L.2.1
    have ef : ∀ x, x < 21 → (F_X9_go fme ffo ffd 0).2.2.1 x = nI (liesOf x) := fun x hx => by
      rw [eg, L.2.2.2 x hx, of_decide_eq_true (List.all_eq_true.mp pf_cW x (List.mem_range.mpr hx))]
    refine ⟨?_, ?_, ?_⟩
    · unfold P_X9_liesAfter P_X9_go
      simp only [forall_eq]
      exact ⟨⟨fun _ => ⟨ME.1, L.1⟩, fun _ => trivial⟩, fun _ => trivial, fun _ => ⟨fun _ => trivial, fun _ => vp_in_nI hd (by decide)⟩⟩
    · unfold F_X9_liesAfter
      simp only [if_neg h0, if_neg h1, if_true, nI_clamp (n := d) (by omega), ef d hd]
    · unfold F_X9_liesAfter
      simp only [if_true]
      exact Or.inr ⟨ek, ef⟩
  · have n0 : ¬ kn = 0 := by rw [e]; decide
    refine ⟨?_, ?_, ?_⟩
    · unfold P_X9_liesAfter
      simp only [forall_eq]
      exact ⟨⟨fun q => absurd q n0, fun _ => trivial⟩, fun _ => trivial, fun _ => ⟨fun _ => trivial, fun _ => vp_in_nI hd (by decide)⟩⟩
    · unfold F_X9_liesAfter
      simp only [if_neg h0, if_neg h1, if_neg n0, nI_clamp (n := d) (by omega), hz d hd]
    · unfold F_X9_liesAfter
      simp only [if_neg n0]
      exact Or.inr ⟨e, hz⟩
theorem p_w19 (len a b : Int32) : ∀ (t j : Nat), j + t = 6 → ∀ (fuel : Nat) (y : Int32), t < fuel → P_X10_waysAsSums_L19 len a b fuel y (nI j) := by
  intro t
  induction t with
  | zero =>
    intro j hj fuel y hf
    obtain ⟨f, rfl⟩ : ∃ f, fuel = f + 1 := ⟨fuel - 1, by omega⟩
    have h1 : (5 : Int32) < nI j := nI_lt (a := 5) (by omega) (by omega)
    rw [P_X10_waysAsSums_L19]
    exact ⟨fun _ => trivial, fun q => absurd h1 q⟩
  | succ t ih =>
    intro j hj fuel y hf
    obtain ⟨f, rfl⟩ : ∃ f, fuel = f + 1 := ⟨fuel - 1, by omega⟩
    rw [P_X10_waysAsSums_L19]
    refine ⟨fun _ => trivial, fun _ x10 _ x14 _ x15 e => ?_⟩
    rw [e, nI_1]
    exact ih (j + 1) (by omega) f x14 (by omega)
theorem p_w11 (len a : Int32) : ∀ (t j : Nat), j + t = 4 → ∀ (fuel : Nat) (y : Int32), t < fuel → P_X10_waysAsSums_L11 len a fuel y (nI j) := by
  intro t
  induction t with
  | zero =>
    intro j hj fuel y hf
    obtain ⟨f, rfl⟩ : ∃ f, fuel = f + 1 := ⟨fuel - 1, by omega⟩
    have h1 : (3 : Int32) < nI j := nI_lt (a := 3) (by omega) (by omega)
    rw [P_X10_waysAsSums_L11]
    exact ⟨fun _ => trivial, fun q => absurd h1 q⟩
  | succ t ih =>
    intro j hj fuel y hf
    obtain ⟨f, rfl⟩ : ∃ f, fuel = f + 1 := ⟨fuel - 1, by omega⟩
    rw [P_X10_waysAsSums_L11]
    refine ⟨fun _ => trivial, fun _ => ⟨p_w19 len a (nI j) 6 0 (by omega) 7 y (by omega), fun z16 _ z17 _ x18 e => ?_⟩⟩
    rw [e, nI_1]
    exact ih (j + 1) (by omega) f z16 (by omega)
theorem p_w4 (len : Int32) : ∀ (t j : Nat), j + t = 2 → ∀ (fuel : Nat) (y : Int32), t < fuel → P_X10_waysAsSums_L4 len fuel y (nI j) := by
  intro t
  induction t with
  | zero =>
    intro j hj fuel y hf
    obtain ⟨f, rfl⟩ : ∃ f, fuel = f + 1 := ⟨fuel - 1, by omega⟩
    have h1 : (1 : Int32) < nI j := nI_lt (a := 1) (by omega) (by omega)
    rw [P_X10_waysAsSums_L4]
    exact ⟨fun _ => trivial, fun q => absurd h1 q⟩
  | succ t ih =>
    intro j hj fuel y hf
    obtain ⟨f, rfl⟩ : ∃ f, fuel = f + 1 := ⟨fuel - 1, by omega⟩
    rw [P_X10_waysAsSums_L4]
    refine ⟨fun _ => trivial, fun _ => ⟨p_w11 len (nI j) 4 0 (by omega) 5 y (by omega), fun z19 _ z20 _ x21 e => ?_⟩⟩
    rw [e, nI_1]
    exact ih (j + 1) (by omega) f z19 (by omega)
theorem pf_sumsL : (List.range 21).all (fun d => decide (F_X10_waysAsSums (nI d) = nI (liesOf d))) = true := by decide +kernel
theorem sums_P (d : Nat) : P_X10_waysAsSums (nI d) := p_w4 _ 2 0 (by omega) 3 0 (by omega)
theorem y00 : ((0 : Int32) < 0) = False := eq_false (by decide)
theorem y10 : ((1 : Int32) < 0) = False := eq_false (by decide)
theorem y01 : ((0 : Int32) ≤ 1) = True := eq_true (by decide)
theorem y11 : ((1 : Int32) ≤ 1) = True := eq_true (by decide)
theorem y0 : ((0 : Int32) = 0) = True := eq_self _
theorem ways_0 {st : St} (h : Inv st) {d : Nat} (hd : d < 21) : P_S_ways st (nI d) 0 ∧ (F_S_ways st (nI d) 0).1 = nI (liesOf d) ∧ Inv (F_S_ways st (nI d) 0).2 := by
  have h0 : ¬ nI d < 0 := nI_nneg (by omega)
  have h1 : nI d ≤ 20 := nI_le (b := 20) (by omega) (by decide)
  have eF : F_X10_ways (q_fme st) (q_ffo st) (q_ffd st) (q_kn st) (nI d) 0 = (nI (liesOf d), q_fme st, q_ffo st, q_ffd st, q_kn st) := by
    unfold F_X10_ways
    simp only [if_neg h0, if_pos h1, y00, y01, y0, if_true, if_false, of_decide_eq_true (List.all_eq_true.mp pf_sumsL d (List.mem_range.mpr hd))]
  refine ⟨⟨fun q => absurd q h0, fun _ => ⟨fun _ => ⟨fun q => absurd q (by decide), fun _ => ⟨fun _ => ⟨fun _ => sums_P d, fun q => absurd rfl q⟩, fun q => absurd (by decide) q⟩⟩, fun q => absurd h1 q⟩⟩, ?_, ?_⟩
  · unfold F_S_ways
    rw [eF]
  · unfold F_S_ways
    rw [eF]
    exact ⟨h.1, h.2.1, h.2.2⟩
theorem ways_1 {st : St} (h : Inv st) {d : Nat} (hd : d < 21) : P_S_ways st (nI d) 1 ∧ (F_S_ways st (nI d) 1).1 = nI (liesOf d) ∧ Inv (F_S_ways st (nI d) 1).2 := by
  have h0 : ¬ nI d < 0 := nI_nneg (by omega)
  have h1 : nI d ≤ 20 := nI_le (b := 20) (by omega) (by decide)
  have LO := lies_ok (fme := q_fme st) (ffo := q_ffo st) h.2.2 hd
  have eF : F_X10_ways (q_fme st) (q_ffo st) (q_ffd st) (q_kn st) (nI d) 1 = (nI (liesOf d), (F_X9_liesAfter (q_fme st) (q_ffo st) (q_ffd st) (q_kn st) (nI d)).2.1, (F_X9_liesAfter (q_fme st) (q_ffo st) (q_ffd st) (q_kn st) (nI d)).2.2.1, (F_X9_liesAfter (q_fme st) (q_ffo st) (q_ffd st) (q_kn st) (nI d)).2.2.2.1, (F_X9_liesAfter (q_fme st) (q_ffo st) (q_ffd st) (q_kn st) (nI d)).2.2.2.2) := by
    unfold F_X10_ways
    simp only [if_neg h0, if_pos h1, y10, y11, i10, if_true, if_false, LO.2.1]
  refine ⟨⟨fun q => absurd q h0, fun _ => ⟨fun _ => ⟨fun q => absurd q (by decide), fun _ => ⟨fun _ => ⟨fun q => absurd q (by decide), fun _ => LO.1⟩, fun q => absurd (by decide) q⟩⟩, fun q => absurd h1 q⟩⟩, ?_, ?_⟩
  · unfold F_S_ways
    rw [eF]
  · unfold F_S_ways
    rw [eF]
    exact ⟨h.1, h.2.1, LO.2.2⟩
