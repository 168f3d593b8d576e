set_option maxRecDepth 20000 in
theorem ggL_law_X5_init : GoodIn wsL_law wsX5_init := goodIn_r _ [6, 7, 8, 9, 10, 11, 12, 13, 14, 15, 16, 17, 18, 19, 20, 21, 22, 23, 24, 25, 26, 27, 28, 29, 30, 31, 32, 33, 34, 35, 36, 37, 38, 39, 40, 41, 42, 43, 44, 45, 46, 47, 48, 2, 49, 50, 51, 52, 53, 54, 55, 56, 57, 58, 59, 60, 61, 62, 63, 64, 65, 66, 67, 68, 69, 70, 71, 72, 73, 74, 75, 76, 77, 78, 79, 80, 81, 82, 83, 84, 85, 86, 87, 88, 89, 90, 91, 92, 93, 94, 95, 96, 97, 98, 99, 100, 101, 102, 103, 104, 105, 106, 107, 108, 109, 110, 111, 112, 113, 114, 115, 116, 117, 118, 119, 120, 121, 122, 123, 124, 125, 126, 127, 128, 129, 130, 131, 132, 133, 134, 135, 458, 459, 460, 461, 462, 463, 464, 465, 450, 451, 452, 453, 454, 455, 456, 457, 466, 467, 468, 469, 470, 471, 472, 473, 474, 475, 476, 477, 478, 479, 480, 481, 482, 483] (by decide +kernel) (by decide +kernel)
set_option maxRecDepth 20000 in
theorem gL_law_X5_init : GoodIn wsL_law (wsX5_init) := ggL_law_X5_init
set_option maxRecDepth 20000 in
theorem ggL_law_L_cell : GoodIn wsL_law wsL_cell := goodIn_r _ [139, 140] (by decide +kernel) (by decide +kernel)
set_option maxRecDepth 20000 in
theorem gL_law_L_cell : GoodIn wsL_law (va_wsS RL 12 yL_cell wsL_cell) := goodIn_app (goodIn_of _ (by decide +kernel)) ggL_law_L_cell
set_option maxRecDepth 20000 in
theorem ggL_law_L_below : GoodIn wsL_law wsL_below := goodIn_r _ [143, 144] (by decide +kernel) (by decide +kernel)
set_option maxRecDepth 20000 in
theorem gL_law_L_below : GoodIn wsL_law (va_wsS RL 18 yL_below wsL_below) := goodIn_app (goodIn_of _ (by decide +kernel)) ggL_law_L_below
set_option maxRecDepth 20000 in
theorem ggL_law_X5_wheel : GoodIn wsL_law wsX5_wheel := goodIn_ca (goodIn_ca (goodIn_ca (goodIn_r _ [148, 13, 149, 150, 151, 2, 152, 153, 154, 155, 156, 157, 158, 159, 160, 161, 162, 163, 164, 165, 166, 167, 168, 169, 170, 171, 172, 173, 12, 174, 54, 32, 33, 115, 116, 450, 451, 452, 453, 454, 455, 456, 457, 458, 459, 460, 461, 462, 463, 464, 465] (by decide +kernel) (by decide +kernel)) (goodIn_sub (fun _ h => List.mem_append_left _ (List.mem_append_left _ (List.mem_append_right _ h))) (by decide +kernel))) (goodIn_sub (fun _ h => List.mem_append_left _ (List.mem_append_right _ h)) (by decide +kernel))) (goodIn_sub (fun _ h => List.mem_append_right _ h) (by decide +kernel))
set_option maxRecDepth 20000 in
theorem gL_law_X5_wheel : GoodIn wsL_law (wsV RL 22 RX5 yX5_wheel wsX5_wheel) := goodIn_app (goodIn_of _ (by decide +kernel)) ggL_law_X5_wheel
set_option maxRecDepth 20000 in
theorem ggL_law_L_act : GoodIn wsL_law wsL_act := goodIn_ca (goodIn_ca (goodIn_ca (goodIn_r _ [177, 178, 179, 180, 141, 142, 138, 143, 144, 145, 146, 147, 2, 148, 13, 149, 150, 151, 152, 153, 154, 155, 156, 157, 158, 159, 160, 161, 162, 163, 164, 165, 166, 167, 168, 169, 170, 171, 172, 173, 12, 174, 54, 32, 33, 115, 116, 181, 182, 183, 184, 185, 186, 187, 188, 189, 190, 191, 192, 193, 65, 66, 67, 68, 59, 60, 194, 195, 196, 197, 41, 35, 36, 37, 50, 51, 52, 53, 38, 55, 56, 57, 58, 34, 61, 62, 63, 64, 69, 70, 71, 72, 73, 74, 75, 76, 77, 78, 79, 80, 81, 82, 83, 84, 85, 86, 46, 47, 87, 43, 44, 45, 8, 9, 48, 49, 42, 198, 199, 200, 201, 202, 203, 204, 205, 40, 206, 207, 208, 209, 210, 211, 212, 213, 214, 215, 216, 217, 218, 219, 220, 221, 222, 223, 23, 224, 19, 225, 226, 227, 228, 229, 230, 231, 232, 233, 234, 235, 236, 237, 238, 239, 240, 241, 242, 243, 244, 245, 246, 247, 22, 248, 249, 250, 251, 252, 253, 254, 121, 255, 256, 257, 258, 18, 259, 111, 112, 113, 114, 92, 260, 261, 262, 263, 264, 265, 266, 267, 268, 269, 270, 271, 122, 272, 273, 274, 275, 276, 277, 278, 279, 280, 281, 282, 283, 284, 285, 286, 287, 15, 288, 289, 450, 451, 452, 453, 454, 455, 456, 457, 458, 459, 460, 461, 462, 463, 464, 465, 482, 483, 473, 474, 475, 476, 466, 467, 468, 469, 470, 471, 472] (by decide +kernel) (by decide +kernel)) (goodIn_sub (fun _ h => List.mem_append_left _ (List.mem_append_left _ (List.mem_append_right _ h))) (by decide +kernel))) (goodIn_sub (fun _ h => List.mem_append_left _ (List.mem_append_right _ h)) (by decide +kernel))) (goodIn_sub (fun _ h => List.mem_append_right _ h) (by decide +kernel))
set_option maxRecDepth 20000 in
theorem gL_law_L_act : GoodIn wsL_law (va_wsS RL 25 yL_act wsL_act) := goodIn_app (goodIn_of _ (by decide +kernel)) ggL_law_L_act
set_option maxRecDepth 20000 in
theorem ggL_law_X5_house : GoodIn wsL_law wsX5_house := goodIn_ca (goodIn_r _ [223, 13, 149, 219, 23, 224, 19, 185, 225, 153, 154, 2, 155, 161, 162, 163, 164, 165, 226, 227, 228, 12, 229, 54, 55, 56, 57, 58, 34, 59, 60, 230, 231, 232, 233, 234, 235, 236, 237, 238, 239, 240, 241, 242, 243, 244, 40, 69, 70, 71, 245, 246, 247, 22, 248, 249, 250, 251, 252, 253, 254, 121, 76, 77, 255, 256, 257, 258, 18, 259, 111, 112, 113, 114, 92, 450, 451, 452, 453, 454, 455, 456, 457, 458, 459, 460, 461, 462, 463, 464, 465, 473, 474, 475, 476, 466, 467, 468, 469, 470, 471, 472] (by decide +kernel) (by decide +kernel)) (goodIn_sub (fun _ h => List.mem_append_left _ (List.mem_append_right _ h)) (by decide +kernel))
set_option maxRecDepth 20000 in
theorem gL_law_X5_house : GoodIn wsL_law (wsV RL 29 RX5 yX5_house wsX5_house) := goodIn_app (goodIn_of _ (by decide +kernel)) ggL_law_X5_house
set_option maxRecDepth 20000 in
theorem ggL_law_X5_ofWheel : GoodIn wsL_law wsX5_ofWheel := goodIn_ca (goodIn_ca (goodIn_r _ [293, 13, 186, 187, 188, 2, 189, 149, 153, 154, 155, 156, 157, 158, 159, 160, 161, 162, 163, 164, 165, 294, 66, 67, 12, 68, 32, 59, 60, 295, 79, 80, 81, 33, 296, 56, 57, 58, 34, 297, 242, 243, 244, 40, 69, 70, 71, 450, 451, 452, 453, 454, 455, 456, 457, 458, 459, 460, 461, 462, 463, 464, 465] (by decide +kernel) (by decide +kernel)) (goodIn_sub (fun _ h => List.mem_append_left _ (List.mem_append_left _ (List.mem_append_right _ h))) (by decide +kernel))) (goodIn_sub (fun _ h => List.mem_append_left _ (List.mem_append_right _ h)) (by decide +kernel))
set_option maxRecDepth 20000 in
theorem gL_law_X5_ofWheel : GoodIn wsL_law (wsV RL 33 RX5 yX5_ofWheel wsX5_ofWheel) := goodIn_app (goodIn_of _ (by decide +kernel)) ggL_law_X5_ofWheel
set_option maxRecDepth 20000 in
theorem ggL_law_L_rate : GoodIn wsL_law wsL_rate := goodIn_ca (goodIn_ca (goodIn_r _ [300, 301, 302, 303, 304, 2, 305, 150, 151, 152, 153, 154, 155, 156, 157, 158, 159, 160, 161, 162, 163, 164, 165, 306, 307, 308, 309, 13, 219, 310, 311, 312, 12, 313, 40, 39, 69, 70, 71, 314, 315, 316, 317, 318, 82, 83, 84, 37, 85, 86, 36, 46, 47, 87, 43, 44, 45, 8, 9, 48, 49, 319, 320, 321, 322, 323, 324, 325, 326, 327, 328, 329, 330, 450, 451, 452, 453, 454, 455, 456, 457, 458, 459, 460, 461, 462, 463, 464, 465, 482, 483] (by decide +kernel) (by decide +kernel)) (goodIn_sub (fun _ h => List.mem_append_left _ (List.mem_append_left _ (List.mem_append_right _ h))) (by decide +kernel))) (goodIn_sub (fun _ h => List.mem_append_left _ (List.mem_append_right _ h)) (by decide +kernel))
set_option maxRecDepth 20000 in
theorem gL_law_L_rate : GoodIn wsL_law (va_wsS RL 36 yL_rate wsL_rate) := goodIn_app (goodIn_of _ (by decide +kernel)) ggL_law_L_rate
set_option maxRecDepth 20000 in
theorem ggL_law_X5_passed : GoodIn wsL_law wsX5_passed := goodIn_ca (goodIn_r _ [334, 186, 187, 188, 2, 189, 13, 149, 153, 154, 155, 156, 157, 158, 159, 160, 335, 336, 337, 338, 219, 294, 66, 67, 12, 68, 32, 59, 60, 310, 311, 312, 313, 40, 39, 69, 70, 71, 295, 79, 80, 81, 33, 339, 83, 84, 37, 85, 86, 36, 46, 47, 87, 43, 44, 45, 8, 9, 48, 49, 327, 328, 329, 330, 450, 451, 452, 453, 454, 455, 456, 457, 458, 459, 460, 461, 462, 463, 464, 465, 482, 483] (by decide +kernel) (by decide +kernel)) (goodIn_sub (fun _ h => List.mem_append_left _ (List.mem_append_left _ (List.mem_append_right _ h))) (by decide +kernel))
set_option maxRecDepth 20000 in
theorem gL_law_X5_passed : GoodIn wsL_law (wsV RL 40 RX5 yX5_passed wsX5_passed) := goodIn_app (goodIn_of _ (by decide +kernel)) ggL_law_X5_passed
set_option maxRecDepth 20000 in
theorem ggL_law_X5_period : GoodIn wsL_law wsX5_period := goodIn_r _ [343, 13, 344, 345, 346, 12, 347, 348, 318, 311, 312, 313, 40, 39, 69, 70, 71, 48, 2, 49, 450, 451, 452, 453, 454, 455, 456, 457, 482, 483, 458, 459, 460, 461, 462, 463, 464, 465] (by decide +kernel) (by decide +kernel)
set_option maxRecDepth 20000 in
theorem gL_law_X5_period : GoodIn wsL_law (wsV RL 44 RX5 yX5_period wsX5_period) := goodIn_app (goodIn_of _ (by decide +kernel)) ggL_law_X5_period
set_option maxRecDepth 20000 in
theorem ggL_law_L_isPeriod : GoodIn wsL_law wsL_isPeriod := goodIn_ca (goodIn_ca (goodIn_r _ [351, 352, 298, 299, 138, 300, 301, 302, 303, 304, 2, 305, 150, 151, 152, 153, 154, 155, 156, 157, 158, 159, 160, 161, 162, 163, 164, 165, 306, 307, 308, 309, 13, 219, 310, 311, 312, 12, 313, 40, 39, 69, 70, 71, 314, 315, 316, 317, 318, 82, 83, 84, 37, 85, 86, 36, 46, 47, 87, 43, 44, 45, 8, 9, 48, 49, 319, 320, 321, 322, 323, 324, 325, 326, 327, 328, 329, 330, 450, 451, 452, 453, 454, 455, 456, 457, 458, 459, 460, 461, 462, 463, 464, 465, 482, 483] (by decide +kernel) (by decide +kernel)) (goodIn_sub (fun _ h => List.mem_append_left _ (List.mem_append_left _ (List.mem_append_right _ h))) (by decide +kernel))) (goodIn_sub (fun _ h => List.mem_append_left _ (List.mem_append_right _ h)) (by decide +kernel))
set_option maxRecDepth 20000 in
theorem gL_law_L_isPeriod : GoodIn wsL_law (va_wsS RL 50 yL_isPeriod wsL_isPeriod) := goodIn_app (goodIn_of _ (by decide +kernel)) ggL_law_L_isPeriod
set_option maxRecDepth 20000 in
theorem ggL_law_X5_ofClaim : GoodIn wsL_law wsX5_ofClaim := goodIn_ca (goodIn_ca (goodIn_r _ [356, 23, 276, 277, 278, 2, 279, 224, 153, 154, 155, 156, 157, 158, 159, 160, 161, 162, 163, 164, 165, 357, 358, 359, 22, 360, 121, 59, 60, 361, 362, 363, 364, 249, 76, 77, 365, 366, 367, 368, 250, 251, 252, 253, 254, 369, 370, 371, 372, 373, 246, 247, 248, 255, 231, 232, 233, 234, 235, 236, 450, 451, 452, 453, 454, 455, 456, 457, 473, 474, 475, 476] (by decide +kernel) (by decide +kernel)) (goodIn_sub (fun _ h => List.mem_append_left _ (List.mem_append_left _ (List.mem_append_right _ h))) (by decide +kernel))) (goodIn_sub (fun _ h => List.mem_append_left _ (List.mem_append_right _ h)) (by decide +kernel))
set_option maxRecDepth 20000 in
theorem gL_law_X5_ofClaim : GoodIn wsL_law (wsV RL 54 RX5 yX5_ofClaim wsX5_ofClaim) := goodIn_app (goodIn_of _ (by decide +kernel)) ggL_law_X5_ofClaim
set_option maxRecDepth 20000 in
theorem ggL_law_L_hangs : GoodIn wsL_law wsL_hangs := goodIn_ca (goodIn_ca (goodIn_r _ [376, 353, 354, 355, 2, 356, 23, 276, 277, 278, 279, 224, 153, 154, 155, 156, 157, 158, 159, 160, 161, 162, 163, 164, 165, 357, 358, 359, 22, 360, 121, 59, 60, 361, 362, 363, 364, 249, 76, 77, 365, 366, 367, 368, 250, 251, 252, 253, 254, 369, 370, 371, 372, 373, 246, 247, 248, 255, 231, 232, 233, 234, 235, 236, 374, 375, 138, 450, 451, 452, 453, 454, 455, 456, 457, 473, 474, 475, 476] (by decide +kernel) (by decide +kernel)) (goodIn_sub (fun _ h => List.mem_append_left _ (List.mem_append_left _ (List.mem_append_right _ h))) (by decide +kernel))) (goodIn_sub (fun _ h => List.mem_append_left _ (List.mem_append_right _ h)) (by decide +kernel))
set_option maxRecDepth 20000 in
theorem gL_law_L_hangs : GoodIn wsL_law (va_wsS RL 57 yL_hangs wsL_hangs) := goodIn_app (goodIn_of _ (by decide +kernel)) ggL_law_L_hangs
set_option maxRecDepth 20000 in
theorem ggL_law_X5_digest : GoodIn wsL_law wsX5_digest := goodIn_ca (goodIn_ca (goodIn_r _ [380, 381, 23, 224, 382, 221, 222, 2, 223, 13, 149, 219, 19, 185, 225, 153, 154, 155, 161, 162, 163, 164, 165, 226, 227, 228, 12, 229, 54, 55, 56, 57, 58, 34, 59, 60, 230, 231, 232, 233, 234, 235, 236, 237, 238, 239, 240, 241, 242, 243, 244, 40, 69, 70, 71, 245, 246, 247, 22, 248, 249, 250, 251, 252, 253, 254, 121, 76, 77, 255, 256, 257, 258, 18, 259, 111, 112, 113, 114, 92, 383, 384, 385, 386, 387, 388, 389, 390, 306, 307, 308, 309, 310, 311, 312, 313, 39, 314, 315, 316, 317, 318, 82, 83, 84, 37, 85, 86, 36, 46, 47, 87, 43, 44, 45, 8, 9, 48, 49, 319, 320, 321, 322, 323, 324, 325, 326, 391, 392, 393, 394, 395, 396, 397, 398, 399, 15, 288, 400, 401, 402, 403, 404, 405, 406, 407, 408, 291, 292, 293, 186, 187, 188, 189, 156, 157, 158, 159, 160, 294, 66, 67, 68, 32, 295, 79, 80, 81, 33, 296, 297, 335, 336, 337, 338, 339, 409, 341, 342, 343, 344, 345, 346, 347, 348, 410, 411, 412, 413, 414, 415, 416, 417, 418, 96, 419, 420, 421, 422, 97, 423, 424, 425, 426, 98, 427, 354, 355, 356, 276, 277, 278, 279, 357, 358, 359, 360, 361, 362, 363, 364, 365, 366, 367, 368, 369, 370, 371, 372, 373, 428, 429, 430, 431, 432, 433, 434, 435, 210, 73, 74, 75, 436, 437, 438, 439, 440, 441, 442, 443, 444, 445, 446, 447, 448, 122, 450, 451, 452, 453, 454, 455, 456, 457, 473, 474, 475, 476, 458, 459, 460, 461, 462, 463, 464, 465, 466, 467, 468, 469, 470, 471, 472, 482, 483] (by decide +kernel) (by decide +kernel)) (goodIn_sub (fun _ h => List.mem_append_left _ (List.mem_append_right _ h)) (by decide +kernel))) (goodIn_sub (fun _ h => List.mem_append_left _ (List.mem_append_left _ (List.mem_append_right _ h))) (by decide +kernel))
set_option maxRecDepth 20000 in
theorem gL_law_X5_digest : GoodIn wsL_law (wsV RL 60 RX5 yX5_digest wsX5_digest) := goodIn_app (goodIn_of _ (by decide +kernel)) ggL_law_X5_digest
set_option maxRecDepth 20000 in
theorem ggL_law_X5_isSound : GoodIn wsL_law wsX5_isSound := goodIn_r _ [431, 13, 23, 432, 433, 434, 2, 435, 149, 335, 336, 337, 338, 219, 294, 66, 67, 12, 68, 32, 59, 60, 310, 311, 312, 313, 40, 39, 69, 70, 71, 295, 79, 80, 81, 33, 339, 83, 84, 37, 85, 86, 36, 46, 47, 87, 43, 44, 45, 8, 9, 48, 49, 210, 73, 74, 75, 55, 56, 57, 58, 34, 76, 77, 436, 437, 438, 439, 440, 441, 442, 443, 348, 444, 345, 346, 347, 318, 445, 446, 447, 22, 448, 249, 254, 122, 250, 251, 252, 253, 121, 450, 451, 452, 453, 454, 455, 456, 457, 458, 459, 460, 461, 462, 463, 464, 465, 482, 483, 473, 474, 475, 476] (by decide +kernel) (by decide +kernel)
set_option maxRecDepth 20000 in
theorem gL_law_X5_isSound : GoodIn wsL_law (wsV RL 63 RX5 yX5_isSound wsX5_isSound) := goodIn_app (goodIn_of _ (by decide +kernel)) ggL_law_X5_isSound
set_option maxRecDepth 20000 in
theorem ggL_rate_X5_ofAxle : GoodIn wsL_rate wsX5_ofAxle := goodIn_ca (goodIn_ca (goodIn_r _ [6, 7, 8, 5, 9, 10, 11, 12, 13, 14, 15, 16, 17, 18, 19, 20, 21, 22, 23, 24, 25, 26, 27, 28, 29, 30, 31, 32, 33, 34, 35, 36, 37, 38, 39, 40, 41, 42, 43, 44, 45, 46, 47, 48, 49, 50, 51, 52, 53, 54, 55, 56, 57, 58, 59, 60, 61, 62, 63, 64, 65, 66, 67, 68, 69, 70, 71, 72, 73, 74, 75, 76, 77, 78, 79, 80, 81, 82, 83, 84, 85, 86, 87, 88, 89, 90] (by decide +kernel) (by decide +kernel)) (goodIn_sub (fun _ h => List.mem_cons_of_mem _ (List.mem_append_left _ (List.mem_append_right _ h))) (by decide +kernel))) (goodIn_sub (fun _ h => List.mem_cons_of_mem _ (List.mem_append_right _ h)) (by decide +kernel))
set_option maxRecDepth 20000 in
theorem gL_rate_X5_ofAxle : GoodIn wsL_rate (wsV RL 67 RX5 yX5_ofAxle wsX5_ofAxle) := goodIn_app (goodIn_of _ (by decide +kernel)) ggL_rate_X5_ofAxle
set_option maxRecDepth 20000 in
theorem ggL_isPeriod_L_rate : GoodIn wsL_isPeriod wsL_rate := goodIn_ca (goodIn_ca (goodIn_r _ [5, 6, 7, 8, 9, 10, 11, 12, 13, 14, 15, 16, 17, 18, 19, 20, 21, 22, 23, 24, 25, 26, 27, 28, 29, 30, 31, 32, 33, 34, 35, 36, 37, 38, 39, 40, 41, 42, 43, 44, 45, 46, 47, 48, 49, 50, 51, 52, 53, 54, 55, 56, 57, 58, 59, 60, 61, 62, 63, 64, 65, 66, 67, 68, 69, 70, 71, 72, 73, 74, 75, 76, 77, 78, 79, 80, 81, 82, 83, 84, 85, 86, 87, 88, 89, 90, 91, 92, 93, 94, 95] (by decide +kernel) (by decide +kernel)) (goodIn_sub (fun _ h => List.mem_cons_of_mem _ (List.mem_append_left _ (List.mem_append_right _ h))) (by decide +kernel))) (goodIn_sub (fun _ h => List.mem_cons_of_mem _ (List.mem_append_right _ h)) (by decide +kernel))
set_option maxRecDepth 20000 in
theorem gL_isPeriod_L_rate : GoodIn wsL_isPeriod (va_wsS RL 36 yL_rate wsL_rate) := goodIn_app (goodIn_of _ (by decide +kernel)) ggL_isPeriod_L_rate
set_option maxRecDepth 20000 in
theorem ggL_hangs_X5_ofClaim : GoodIn wsL_hangs wsX5_ofClaim := goodIn_ca (goodIn_ca (goodIn_r _ [5, 6, 7, 8, 9, 4, 10, 11, 12, 13, 14, 15, 16, 17, 18, 19, 20, 21, 22, 23, 24, 25, 26, 27, 28, 29, 30, 31, 32, 33, 34, 35, 36, 37, 38, 39, 40, 41, 42, 43, 44, 45, 46, 47, 48, 49, 50, 51, 52, 53, 54, 55, 56, 57, 58, 59, 60, 61, 62, 63, 67, 68, 69, 70, 71, 72, 73, 74, 75, 76, 77, 78] (by decide +kernel) (by decide +kernel)) (goodIn_sub (fun _ h => List.mem_cons_of_mem _ (List.mem_append_left _ (List.mem_append_right _ h))) (by decide +kernel))) (goodIn_sub (fun _ h => List.mem_cons_of_mem _ (List.mem_append_right _ h)) (by decide +kernel))
set_option maxRecDepth 20000 in
theorem gL_hangs_X5_ofClaim : GoodIn wsL_hangs (wsV RL 54 RX5 yX5_ofClaim wsX5_ofClaim) := goodIn_app (goodIn_of _ (by decide +kernel)) ggL_hangs_X5_ofClaim
set_option maxRecDepth 20000 in
theorem ggL_hangs_L_hangs : GoodIn wsL_hangs wsL_hangs := goodIn_ca (goodIn_ca (goodIn_r _ [0, 1, 2, 3, 4, 5, 6, 7, 8, 9, 10, 11, 12, 13, 14, 15, 16, 17, 18, 19, 20, 21, 22, 23, 24, 25, 26, 27, 28, 29, 30, 31, 32, 33, 34, 35, 36, 37, 38, 39, 40, 41, 42, 43, 44, 45, 46, 47, 48, 49, 50, 51, 52, 53, 54, 55, 56, 57, 58, 59, 60, 61, 62, 63, 64, 65, 66, 67, 68, 69, 70, 71, 72, 73, 74, 75, 76, 77, 78] (by decide +kernel) (by decide +kernel)) (goodIn_sub (fun _ h => List.mem_cons_of_mem _ (List.mem_append_left _ (List.mem_append_right _ h))) (by decide +kernel))) (goodIn_sub (fun _ h => List.mem_cons_of_mem _ (List.mem_append_right _ h)) (by decide +kernel))
set_option maxRecDepth 20000 in
theorem gL_hangs_L_hangs : GoodIn wsL_hangs (va_wsS RL 57 yL_hangs wsL_hangs) := goodIn_app (goodIn_of _ (by decide +kernel)) ggL_hangs_L_hangs
set_option maxRecDepth 20000 in
theorem ggL_act_L_below : GoodIn wsL_act wsL_below := goodIn_r _ [7, 8] (by decide +kernel) (by decide +kernel)
set_option maxRecDepth 20000 in
theorem gL_act_L_below : GoodIn wsL_act (va_wsS RL 18 yL_below wsL_below) := goodIn_app (goodIn_of _ (by decide +kernel)) ggL_act_L_below
set_option maxRecDepth 20000 in
theorem ggL_act_X5_wheel : GoodIn wsL_act wsX5_wheel := goodIn_ca (goodIn_ca (goodIn_ca (goodIn_r _ [13, 14, 15, 16, 17, 12, 18, 19, 20, 21, 22, 23, 24, 25, 26, 27, 28, 29, 30, 31, 32, 33, 34, 35, 36, 37, 38, 39, 40, 41, 42, 43, 44, 45, 46, 222, 223, 224, 225, 226, 227, 228, 229, 230, 231, 232, 233, 234, 235, 236, 237] (by decide +kernel) (by decide +kernel)) (goodIn_sub (fun _ h => List.mem_cons_of_mem _ (List.mem_append_left _ (List.mem_append_left _ (List.mem_append_right _ h)))) (by decide +kernel))) (goodIn_sub (fun _ h => List.mem_cons_of_mem _ (List.mem_append_left _ (List.mem_append_right _ h))) (by decide +kernel))) (goodIn_sub (fun _ h => List.mem_cons_of_mem _ (List.mem_append_right _ h)) (by decide +kernel))
set_option maxRecDepth 20000 in
theorem gL_act_X5_wheel : GoodIn wsL_act (wsV RL 22 RX5 yX5_wheel wsX5_wheel) := goodIn_app (goodIn_of _ (by decide +kernel)) ggL_act_X5_wheel
set_option maxRecDepth 20000 in
theorem ggL_act_X5_mesh : GoodIn wsL_act wsX5_mesh := goodIn_ca (goodIn_ca (goodIn_r _ [50, 14, 51, 52, 53, 54, 12, 55, 15, 19, 20, 21, 22, 23, 24, 25, 26, 56, 57, 58, 40, 59, 60, 61, 62, 63, 43, 64, 65, 27, 28, 29, 30, 31, 66, 67, 68, 69, 70, 71, 72, 73, 74, 75, 76, 77, 78, 42, 79, 80, 81, 82, 83, 84, 85, 86, 87, 88, 89, 90, 91, 92, 93, 94, 95, 96, 97, 98, 99, 100, 44, 101, 102, 103, 104, 105, 106, 107, 108, 109, 110, 111, 112, 113, 114, 115, 116, 117, 118, 119, 120, 121, 122, 123, 124, 125, 45, 46, 222, 223, 224, 225, 226, 227, 228, 229, 230, 231, 232, 233, 234, 235, 236, 237, 238, 239] (by decide +kernel) (by decide +kernel)) (goodIn_sub (fun _ h => List.mem_cons_of_mem _ (List.mem_append_left _ (List.mem_append_left _ (List.mem_append_right _ h)))) (by decide +kernel))) (goodIn_sub (fun _ h => List.mem_cons_of_mem _ (List.mem_append_left _ (List.mem_append_right _ h))) (by decide +kernel))
set_option maxRecDepth 20000 in
theorem gL_act_X5_mesh : GoodIn wsL_act (wsV RL 73 RX5 yX5_mesh wsX5_mesh) := goodIn_app (goodIn_of _ (by decide +kernel)) ggL_act_X5_mesh
set_option maxRecDepth 20000 in
theorem ggL_act_X5_part : GoodIn wsL_act wsX5_part := goodIn_ca (goodIn_r _ [129, 14, 52, 53, 54, 12, 55, 15, 19, 20, 21, 22, 23, 24, 25, 26, 130, 92, 93, 40, 94, 79, 80, 81, 82, 83, 64, 65, 95, 96, 131, 132, 133, 134, 125, 45, 46, 74, 75, 76, 77, 78, 42, 84, 85, 86, 87, 60, 61, 62, 63, 43, 88, 89, 90, 91, 97, 98, 99, 100, 44, 101, 102, 103, 73, 104, 105, 72, 106, 107, 108, 109, 110, 111, 112, 113, 114, 115, 222, 223, 224, 225, 226, 227, 228, 229, 230, 231, 232, 233, 234, 235, 236, 237, 238, 239] (by decide +kernel) (by decide +kernel)) (goodIn_sub (fun _ h => List.mem_cons_of_mem _ (List.mem_append_left _ (List.mem_append_left _ (List.mem_append_right _ h)))) (by decide +kernel))
set_option maxRecDepth 20000 in
theorem gL_act_X5_part : GoodIn wsL_act (wsV RL 77 RX5 yX5_part wsX5_part) := goodIn_app (goodIn_of _ (by decide +kernel)) ggL_act_X5_part
set_option maxRecDepth 20000 in
theorem ggL_act_X5_turn : GoodIn wsL_act wsX5_turn := goodIn_ca (goodIn_ca (goodIn_r _ [138, 139, 19, 20, 12, 21, 27, 28, 29, 30, 31, 32, 33, 34, 35, 36, 222, 223, 224, 225, 226, 227, 228, 229] (by decide +kernel) (by decide +kernel)) (goodIn_sub (fun _ h => List.mem_cons_of_mem _ (List.mem_append_left _ (List.mem_append_right _ h))) (by decide +kernel))) (goodIn_sub (fun _ h => List.mem_cons_of_mem _ (List.mem_append_right _ h)) (by decide +kernel))
set_option maxRecDepth 20000 in
theorem gL_act_X5_turn : GoodIn wsL_act (wsV RL 80 RX5 yX5_turn wsX5_turn) := goodIn_app (goodIn_of _ (by decide +kernel)) ggL_act_X5_turn
set_option maxRecDepth 20000 in
theorem ggL_act_X5_house : GoodIn wsL_act wsX5_house := goodIn_ca (goodIn_r _ [143, 14, 15, 139, 144, 145, 146, 51, 147, 19, 20, 12, 21, 27, 28, 29, 30, 31, 148, 149, 150, 40, 151, 42, 79, 80, 81, 82, 83, 64, 65, 152, 153, 154, 155, 156, 157, 158, 159, 160, 161, 162, 163, 164, 165, 166, 125, 88, 89, 90, 167, 168, 169, 170, 171, 172, 173, 174, 175, 176, 177, 178, 95, 96, 179, 180, 181, 182, 183, 184, 185, 186, 187, 188, 189, 222, 223, 224, 225, 226, 227, 228, 229, 230, 231, 232, 233, 234, 235, 236, 237, 240, 241, 242, 243, 244, 245, 246, 247, 248, 249, 250] (by decide +kernel) (by decide +kernel)) (goodIn_sub (fun _ h => List.mem_cons_of_mem _ (List.mem_append_left _ (List.mem_append_right _ h))) (by decide +kernel))
set_option maxRecDepth 20000 in
theorem gL_act_X5_house : GoodIn wsL_act (wsV RL 29 RX5 yX5_house wsX5_house) := goodIn_app (goodIn_of _ (by decide +kernel)) ggL_act_X5_house
set_option maxRecDepth 20000 in
theorem ggL_act_X5_claim : GoodIn wsL_act wsX5_claim := goodIn_ca (goodIn_ca (goodIn_r _ [193, 144, 145, 194, 195, 196, 170, 197, 177, 27, 28, 12, 29, 30, 31, 32, 33, 34, 35, 36, 198, 199, 200, 201, 202, 178, 95, 96, 64, 65, 45, 46, 222, 223, 224, 225, 226, 227, 228, 229, 240, 241, 242, 243] (by decide +kernel) (by decide +kernel)) (goodIn_sub (fun _ h => List.mem_cons_of_mem _ (List.mem_append_left _ (List.mem_append_right _ h))) (by decide +kernel))) (goodIn_sub (fun _ h => List.mem_cons_of_mem _ (List.mem_append_right _ h)) (by decide +kernel))
set_option maxRecDepth 20000 in
theorem gL_act_X5_claim : GoodIn wsL_act (wsV RL 83 RX5 yX5_claim wsX5_claim) := goodIn_app (goodIn_of _ (by decide +kernel)) ggL_act_X5_claim
set_option maxRecDepth 20000 in
theorem ggL_act_X5_withdraw : GoodIn wsL_act wsX5_withdraw := goodIn_ca (goodIn_r _ [206, 144, 207, 208, 209, 12, 210, 145, 19, 20, 21, 22, 23, 24, 25, 26, 211, 212, 213, 170, 214, 172, 167, 168, 169, 171, 173, 174, 175, 176, 177, 178, 95, 96, 64, 65, 179, 153, 154, 155, 156, 157, 158, 222, 223, 224, 225, 226, 227, 228, 229, 240, 241, 242, 243] (by decide +kernel) (by decide +kernel)) (goodIn_sub (fun _ h => List.mem_cons_of_mem _ (List.mem_append_left _ (List.mem_append_left _ (List.mem_append_right _ h)))) (by decide +kernel))
set_option maxRecDepth 20000 in
theorem gL_act_X5_withdraw : GoodIn wsL_act (wsV RL 86 RX5 yX5_withdraw wsX5_withdraw) := goodIn_app (goodIn_of _ (by decide +kernel)) ggL_act_X5_withdraw
set_option maxRecDepth 20000 in
theorem ggL_act_X5_dial : GoodIn wsL_act wsX5_dial := goodIn_ca (goodIn_ca (goodIn_r _ [218, 219, 16, 17, 12, 18, 19, 20, 21, 22, 23, 24, 25, 26, 27, 28, 29, 30, 31, 220, 64, 65, 221, 45, 46, 222, 223, 224, 225, 226, 227, 228, 229] (by decide +kernel) (by decide +kernel)) (goodIn_sub (fun _ h => List.mem_cons_of_mem _ (List.mem_append_left _ (List.mem_append_left _ (List.mem_append_right _ h)))) (by decide +kernel))) (goodIn_sub (fun _ h => List.mem_cons_of_mem _ (List.mem_append_left _ (List.mem_append_right _ h))) (by decide +kernel))
set_option maxRecDepth 20000 in
theorem gL_act_X5_dial : GoodIn wsL_act (wsV RL 90 RX5 yX5_dial wsX5_dial) := goodIn_app (goodIn_of _ (by decide +kernel)) ggL_act_X5_dial
theorem dL_below_0 : decode cL_below 0 = .ok (.iload_n 0, 1) := by decide +kernel
theorem dL_below_1 : decode cL_below 1 = .ok (.ldc 7, 2) := by decide +kernel
theorem dL_below_3 : decode cL_below 3 = .ok (.iand, 1) := by decide +kernel
theorem dL_below_4 : decode cL_below 4 = .ok (.iload_n 1, 1) := by decide +kernel
theorem dL_below_5 : decode cL_below 5 = .ok (.irem, 1) := by decide +kernel
theorem dL_below_6 : decode cL_below 6 = .ok (.ireturn, 1) := by decide +kernel
theorem dL_cell_0 : decode cL_cell 0 = .ok (.iload_n 1, 1) := by decide +kernel
theorem dL_cell_1 : decode cL_cell 1 = .ok (.aload_n 0, 1) := by decide +kernel
theorem dL_cell_2 : decode cL_cell 2 = .ok (.arraylength, 1) := by decide +kernel
theorem dL_cell_3 : decode cL_cell 3 = .ok (.if_icmp .ge 9, 3) := by decide +kernel
theorem dL_cell_6 : decode cL_cell 6 = .ok (.aload_n 0, 1) := by decide +kernel
theorem dL_cell_7 : decode cL_cell 7 = .ok (.iload_n 1, 1) := by decide +kernel
theorem dL_cell_8 : decode cL_cell 8 = .ok (.iaload, 1) := by decide +kernel
theorem dL_cell_9 : decode cL_cell 9 = .ok (.goto 9, 3) := by decide +kernel
theorem dL_cell_12 : decode cL_cell 12 = .ok (.ldc 8, 2) := by decide +kernel
theorem dL_cell_14 : decode cL_cell 14 = .ok (.iload_n 1, 1) := by decide +kernel
theorem dL_cell_15 : decode cL_cell 15 = .ok (.iconst 3, 1) := by decide +kernel
theorem dL_cell_16 : decode cL_cell 16 = .ok (.iadd, 1) := by decide +kernel
theorem dL_cell_17 : decode cL_cell 17 = .ok (.imul, 1) := by decide +kernel
theorem dL_cell_18 : decode cL_cell 18 = .ok (.ireturn, 1) := by decide +kernel
theorem dL_law_0 : decode cL_law 0 = .ok (.new 9, 3) := by decide +kernel
theorem dL_law_3 : decode cL_law 3 = .ok (.dup, 1) := by decide +kernel
theorem dL_law_4 : decode cL_law 4 = .ok (.invokespecial 11, 3) := by decide +kernel
theorem dL_law_7 : decode cL_law 7 = .ok (.astore_n 1, 1) := by decide +kernel
theorem dL_law_8 : decode cL_law 8 = .ok (.iconst 0, 1) := by decide +kernel
theorem dL_law_9 : decode cL_law 9 = .ok (.istore_n 2, 1) := by decide +kernel
theorem dL_law_10 : decode cL_law 10 = .ok (.iload_n 2, 1) := by decide +kernel
theorem dL_law_11 : decode cL_law 11 = .ok (.iconst 4, 1) := by decide +kernel
theorem dL_law_12 : decode cL_law 12 = .ok (.if_icmp .ge 29, 3) := by decide +kernel
theorem dL_law_15 : decode cL_law 15 = .ok (.aload_n 1, 1) := by decide +kernel
theorem dL_law_16 : decode cL_law 16 = .ok (.iload_n 2, 1) := by decide +kernel
theorem dL_law_17 : decode cL_law 17 = .ok (.iconst 4, 1) := by decide +kernel
theorem dL_law_18 : decode cL_law 18 = .ok (.aload_n 0, 1) := by decide +kernel
theorem dL_law_19 : decode cL_law 19 = .ok (.iload_n 2, 1) := by decide +kernel
theorem dL_law_20 : decode cL_law 20 = .ok (.iconst 1, 1) := by decide +kernel
theorem dL_law_21 : decode cL_law 21 = .ok (.iadd, 1) := by decide +kernel
theorem dL_law_22 : decode cL_law 22 = .ok (.invokestatic 12, 3) := by decide +kernel
theorem dL_law_25 : decode cL_law 25 = .ok (.bipush 30, 2) := by decide +kernel
theorem dL_law_27 : decode cL_law 27 = .ok (.invokestatic 18, 3) := by decide +kernel
theorem dL_law_30 : decode cL_law 30 = .ok (.iadd, 1) := by decide +kernel
theorem dL_law_31 : decode cL_law 31 = .ok (.invokevirtual 22, 3) := by decide +kernel
theorem dL_law_34 : decode cL_law 34 = .ok (.pop, 1) := by decide +kernel
theorem dL_law_35 : decode cL_law 35 = .ok (.iinc 2 1, 3) := by decide +kernel
theorem dL_law_38 : decode cL_law 38 = .ok (.goto (-28), 3) := by decide +kernel
theorem dL_law_41 : decode cL_law 41 = .ok (.iconst 0, 1) := by decide +kernel
theorem dL_law_42 : decode cL_law 42 = .ok (.istore_n 2, 1) := by decide +kernel
theorem dL_law_43 : decode cL_law 43 = .ok (.iload_n 2, 1) := by decide +kernel
theorem dL_law_44 : decode cL_law 44 = .ok (.bipush 50, 2) := by decide +kernel
theorem dL_law_46 : decode cL_law 46 = .ok (.if_icmp .ge 308, 3) := by decide +kernel
theorem dL_law_49 : decode cL_law 49 = .ok (.aload_n 0, 1) := by decide +kernel
theorem dL_law_50 : decode cL_law 50 = .ok (.iload_n 2, 1) := by decide +kernel
theorem dL_law_51 : decode cL_law 51 = .ok (.bipush 16, 2) := by decide +kernel
theorem dL_law_53 : decode cL_law 53 = .ok (.irem, 1) := by decide +kernel
theorem dL_law_54 : decode cL_law 54 = .ok (.invokestatic 12, 3) := by decide +kernel
theorem dL_law_57 : decode cL_law 57 = .ok (.bipush 59, 2) := by decide +kernel
theorem dL_law_59 : decode cL_law 59 = .ok (.iload_n 2, 1) := by decide +kernel
theorem dL_law_60 : decode cL_law 60 = .ok (.imul, 1) := by decide +kernel
theorem dL_law_61 : decode cL_law 61 = .ok (.iadd, 1) := by decide +kernel
theorem dL_law_62 : decode cL_law 62 = .ok (.istore_n 3, 1) := by decide +kernel
theorem dL_law_63 : decode cL_law 63 = .ok (.aload_n 1, 1) := by decide +kernel
theorem dL_law_64 : decode cL_law 64 = .ok (.iload_n 3, 1) := by decide +kernel
theorem dL_law_65 : decode cL_law 65 = .ok (.iconst 2, 1) := by decide +kernel
theorem dL_law_66 : decode cL_law 66 = .ok (.ishr, 1) := by decide +kernel
theorem dL_law_67 : decode cL_law 67 = .ok (.iload_n 3, 1) := by decide +kernel
theorem dL_law_68 : decode cL_law 68 = .ok (.bipush 10, 2) := by decide +kernel
theorem dL_law_70 : decode cL_law 70 = .ok (.invokestatic 18, 3) := by decide +kernel
theorem dL_law_73 : decode cL_law 73 = .ok (.invokestatic 25, 3) := by decide +kernel
theorem dL_law_76 : decode cL_law 76 = .ok (.iconst 0, 1) := by decide +kernel
theorem dL_law_77 : decode cL_law 77 = .ok (.istore 4, 2) := by decide +kernel
theorem dL_law_79 : decode cL_law 79 = .ok (.iload 4, 2) := by decide +kernel
theorem dL_law_81 : decode cL_law 81 = .ok (.aload_n 1, 1) := by decide +kernel
theorem dL_law_82 : decode cL_law 82 = .ok (.iconst 0, 1) := by decide +kernel
theorem dL_law_83 : decode cL_law 83 = .ok (.invokevirtual 29, 3) := by decide +kernel
theorem dL_law_86 : decode cL_law 86 = .ok (.if_icmp .ge 149, 3) := by decide +kernel
theorem dL_law_89 : decode cL_law 89 = .ok (.iconst 0, 1) := by decide +kernel
theorem dL_law_90 : decode cL_law 90 = .ok (.istore 5, 2) := by decide +kernel
theorem dL_law_92 : decode cL_law 92 = .ok (.iload 5, 2) := by decide +kernel
theorem dL_law_94 : decode cL_law 94 = .ok (.iload 4, 2) := by decide +kernel
theorem dL_law_96 : decode cL_law 96 = .ok (.if_icmp .ge 133, 3) := by decide +kernel
theorem dL_law_99 : decode cL_law 99 = .ok (.aload_n 1, 1) := by decide +kernel
theorem dL_law_100 : decode cL_law 100 = .ok (.iload 4, 2) := by decide +kernel
theorem dL_law_102 : decode cL_law 102 = .ok (.iconst 2, 1) := by decide +kernel
theorem dL_law_103 : decode cL_law 103 = .ok (.invokevirtual 33, 3) := by decide +kernel
theorem dL_law_106 : decode cL_law 106 = .ok (.iload 5, 2) := by decide +kernel
theorem dL_law_108 : decode cL_law 108 = .ok (.ishr, 1) := by decide +kernel
theorem dL_law_109 : decode cL_law 109 = .ok (.iconst 1, 1) := by decide +kernel
theorem dL_law_110 : decode cL_law 110 = .ok (.iand, 1) := by decide +kernel
theorem dL_law_111 : decode cL_law 111 = .ok (.iconst 1, 1) := by decide +kernel
theorem dL_law_112 : decode cL_law 112 = .ok (.if_icmp .ne 111, 3) := by decide +kernel
theorem dL_law_115 : decode cL_law 115 = .ok (.aload_n 1, 1) := by decide +kernel
theorem dL_law_116 : decode cL_law 116 = .ok (.aload_n 1, 1) := by decide +kernel
theorem dL_law_117 : decode cL_law 117 = .ok (.iload 4, 2) := by decide +kernel
theorem dL_law_119 : decode cL_law 119 = .ok (.iconst 0, 1) := by decide +kernel
theorem dL_law_120 : decode cL_law 120 = .ok (.invokevirtual 33, 3) := by decide +kernel
theorem dL_law_123 : decode cL_law 123 = .ok (.invokestatic 36, 3) := by decide +kernel
theorem dL_law_126 : decode cL_law 126 = .ok (.astore 6, 2) := by decide +kernel
theorem dL_law_128 : decode cL_law 128 = .ok (.aload_n 1, 1) := by decide +kernel
theorem dL_law_129 : decode cL_law 129 = .ok (.aload_n 1, 1) := by decide +kernel
theorem dL_law_130 : decode cL_law 130 = .ok (.iload 5, 2) := by decide +kernel
theorem dL_law_132 : decode cL_law 132 = .ok (.iconst 0, 1) := by decide +kernel
theorem dL_law_133 : decode cL_law 133 = .ok (.invokevirtual 33, 3) := by decide +kernel
theorem dL_law_136 : decode cL_law 136 = .ok (.invokestatic 36, 3) := by decide +kernel
theorem dL_law_139 : decode cL_law 139 = .ok (.astore 7, 2) := by decide +kernel
theorem dL_law_141 : decode cL_law 141 = .ok (.aload_n 1, 1) := by decide +kernel
theorem dL_law_142 : decode cL_law 142 = .ok (.iload 4, 2) := by decide +kernel
theorem dL_law_144 : decode cL_law 144 = .ok (.iconst 1, 1) := by decide +kernel
theorem dL_law_145 : decode cL_law 145 = .ok (.invokevirtual 40, 3) := by decide +kernel
theorem dL_law_148 : decode cL_law 148 = .ok (.aload_n 1, 1) := by decide +kernel
theorem dL_law_149 : decode cL_law 149 = .ok (.iload 5, 2) := by decide +kernel
theorem dL_law_151 : decode cL_law 151 = .ok (.iconst 1, 1) := by decide +kernel
theorem dL_law_152 : decode cL_law 152 = .ok (.invokevirtual 40, 3) := by decide +kernel
theorem dL_law_155 : decode cL_law 155 = .ok (.lneg, 1) := by decide +kernel
theorem dL_law_156 : decode cL_law 156 = .ok (.lcmp, 1) := by decide +kernel
theorem dL_law_157 : decode cL_law 157 = .ok (.ifCond .ne 21, 3) := by decide +kernel
theorem dL_law_160 : decode cL_law 160 = .ok (.aload_n 1, 1) := by decide +kernel
theorem dL_law_161 : decode cL_law 161 = .ok (.iload 4, 2) := by decide +kernel
theorem dL_law_163 : decode cL_law 163 = .ok (.iconst 0, 1) := by decide +kernel
theorem dL_law_164 : decode cL_law 164 = .ok (.invokevirtual 40, 3) := by decide +kernel
theorem dL_law_167 : decode cL_law 167 = .ok (.aload_n 1, 1) := by decide +kernel
theorem dL_law_168 : decode cL_law 168 = .ok (.iload 5, 2) := by decide +kernel
theorem dL_law_170 : decode cL_law 170 = .ok (.iconst 0, 1) := by decide +kernel
theorem dL_law_171 : decode cL_law 171 = .ok (.invokevirtual 40, 3) := by decide +kernel
theorem dL_law_174 : decode cL_law 174 = .ok (.lcmp, 1) := by decide +kernel
theorem dL_law_175 : decode cL_law 175 = .ok (.ifCond .eq 5, 3) := by decide +kernel
theorem dL_law_178 : decode cL_law 178 = .ok (.iconst 0, 1) := by decide +kernel
theorem dL_law_179 : decode cL_law 179 = .ok (.ireturn, 1) := by decide +kernel
theorem dL_law_180 : decode cL_law 180 = .ok (.aload 6, 2) := by decide +kernel
theorem dL_law_182 : decode cL_law 182 = .ok (.iconst 0, 1) := by decide +kernel
theorem dL_law_183 : decode cL_law 183 = .ok (.laload, 1) := by decide +kernel
theorem dL_law_184 : decode cL_law 184 = .ok (.aload_n 1, 1) := by decide +kernel
theorem dL_law_185 : decode cL_law 185 = .ok (.iload 4, 2) := by decide +kernel
theorem dL_law_187 : decode cL_law 187 = .ok (.iconst 1, 1) := by decide +kernel
theorem dL_law_188 : decode cL_law 188 = .ok (.invokevirtual 33, 3) := by decide +kernel
theorem dL_law_191 : decode cL_law 191 = .ok (.i2l, 1) := by decide +kernel
theorem dL_law_192 : decode cL_law 192 = .ok (.lmul, 1) := by decide +kernel
theorem dL_law_193 : decode cL_law 193 = .ok (.aload 7, 2) := by decide +kernel
theorem dL_law_195 : decode cL_law 195 = .ok (.iconst 1, 1) := by decide +kernel
theorem dL_law_196 : decode cL_law 196 = .ok (.laload, 1) := by decide +kernel
theorem dL_law_197 : decode cL_law 197 = .ok (.lmul, 1) := by decide +kernel
theorem dL_law_198 : decode cL_law 198 = .ok (.aload 7, 2) := by decide +kernel
theorem dL_law_200 : decode cL_law 200 = .ok (.iconst 0, 1) := by decide +kernel
theorem dL_law_201 : decode cL_law 201 = .ok (.laload, 1) := by decide +kernel
theorem dL_law_202 : decode cL_law 202 = .ok (.lneg, 1) := by decide +kernel
theorem dL_law_203 : decode cL_law 203 = .ok (.aload_n 1, 1) := by decide +kernel
theorem dL_law_204 : decode cL_law 204 = .ok (.iload 5, 2) := by decide +kernel
theorem dL_law_206 : decode cL_law 206 = .ok (.iconst 1, 1) := by decide +kernel
theorem dL_law_207 : decode cL_law 207 = .ok (.invokevirtual 33, 3) := by decide +kernel
theorem dL_law_210 : decode cL_law 210 = .ok (.i2l, 1) := by decide +kernel
theorem dL_law_211 : decode cL_law 211 = .ok (.lmul, 1) := by decide +kernel
theorem dL_law_212 : decode cL_law 212 = .ok (.aload 6, 2) := by decide +kernel
theorem dL_law_214 : decode cL_law 214 = .ok (.iconst 1, 1) := by decide +kernel
theorem dL_law_215 : decode cL_law 215 = .ok (.laload, 1) := by decide +kernel
theorem dL_law_216 : decode cL_law 216 = .ok (.lmul, 1) := by decide +kernel
theorem dL_law_217 : decode cL_law 217 = .ok (.lcmp, 1) := by decide +kernel
theorem dL_law_218 : decode cL_law 218 = .ok (.ifCond .eq 5, 3) := by decide +kernel
theorem dL_law_221 : decode cL_law 221 = .ok (.iconst 0, 1) := by decide +kernel
theorem dL_law_222 : decode cL_law 222 = .ok (.ireturn, 1) := by decide +kernel
theorem dL_law_223 : decode cL_law 223 = .ok (.iinc 5 1, 3) := by decide +kernel
theorem dL_law_226 : decode cL_law 226 = .ok (.goto (-134), 3) := by decide +kernel
theorem dL_law_229 : decode cL_law 229 = .ok (.iinc 4 1, 3) := by decide +kernel
theorem dL_law_232 : decode cL_law 232 = .ok (.goto (-153), 3) := by decide +kernel
theorem dL_law_235 : decode cL_law 235 = .ok (.aload_n 1, 1) := by decide +kernel
theorem dL_law_236 : decode cL_law 236 = .ok (.invokevirtual 44, 3) := by decide +kernel
theorem dL_law_239 : decode cL_law 239 = .ok (.lstore 4, 2) := by decide +kernel
theorem dL_law_241 : decode cL_law 241 = .ok (.lload 4, 2) := by decide +kernel
theorem dL_law_243 : decode cL_law 243 = .ok (.lconst 0, 1) := by decide +kernel
theorem dL_law_244 : decode cL_law 244 = .ok (.lcmp, 1) := by decide +kernel
theorem dL_law_245 : decode cL_law 245 = .ok (.ifCond .le 24, 3) := by decide +kernel
theorem dL_law_248 : decode cL_law 248 = .ok (.lload 4, 2) := by decide +kernel
theorem dL_law_250 : decode cL_law 250 = .ok (.ldc2_w 48, 3) := by decide +kernel
theorem dL_law_253 : decode cL_law 253 = .ok (.lcmp, 1) := by decide +kernel
theorem dL_law_254 : decode cL_law 254 = .ok (.ifCond .ge 15, 3) := by decide +kernel
theorem dL_law_257 : decode cL_law 257 = .ok (.aload_n 1, 1) := by decide +kernel
theorem dL_law_258 : decode cL_law 258 = .ok (.lload 4, 2) := by decide +kernel
theorem dL_law_260 : decode cL_law 260 = .ok (.l2i, 1) := by decide +kernel
theorem dL_law_261 : decode cL_law 261 = .ok (.invokestatic 50, 3) := by decide +kernel
theorem dL_law_264 : decode cL_law 264 = .ok (.ifCond .ne 5, 3) := by decide +kernel
theorem dL_law_267 : decode cL_law 267 = .ok (.iconst 0, 1) := by decide +kernel
theorem dL_law_268 : decode cL_law 268 = .ok (.ireturn, 1) := by decide +kernel
theorem dL_law_269 : decode cL_law 269 = .ok (.iconst 0, 1) := by decide +kernel
theorem dL_law_270 : decode cL_law 270 = .ok (.istore 6, 2) := by decide +kernel
theorem dL_law_272 : decode cL_law 272 = .ok (.iload 6, 2) := by decide +kernel
theorem dL_law_274 : decode cL_law 274 = .ok (.aload_n 1, 1) := by decide +kernel
theorem dL_law_275 : decode cL_law 275 = .ok (.iconst 4, 1) := by decide +kernel
theorem dL_law_276 : decode cL_law 276 = .ok (.invokevirtual 29, 3) := by decide +kernel
theorem dL_law_279 : decode cL_law 279 = .ok (.if_icmp .ge 35, 3) := by decide +kernel
theorem dL_law_282 : decode cL_law 282 = .ok (.aload_n 1, 1) := by decide +kernel
theorem dL_law_283 : decode cL_law 283 = .ok (.iload 6, 2) := by decide +kernel
theorem dL_law_285 : decode cL_law 285 = .ok (.iconst 2, 1) := by decide +kernel
theorem dL_law_286 : decode cL_law 286 = .ok (.invokevirtual 54, 3) := by decide +kernel
theorem dL_law_289 : decode cL_law 289 = .ok (.aload_n 1, 1) := by decide +kernel
theorem dL_law_290 : decode cL_law 290 = .ok (.iload 6, 2) := by decide +kernel
theorem dL_law_292 : decode cL_law 292 = .ok (.invokestatic 57, 3) := by decide +kernel
theorem dL_law_295 : decode cL_law 295 = .ok (.ifCond .eq 7, 3) := by decide +kernel
theorem dL_law_298 : decode cL_law 298 = .ok (.iconst 0, 1) := by decide +kernel
theorem dL_law_299 : decode cL_law 299 = .ok (.goto 4, 3) := by decide +kernel
theorem dL_law_302 : decode cL_law 302 = .ok (.iconst 1, 1) := by decide +kernel
theorem dL_law_303 : decode cL_law 303 = .ok (.if_icmp .eq 5, 3) := by decide +kernel
theorem dL_law_306 : decode cL_law 306 = .ok (.iconst 0, 1) := by decide +kernel
theorem dL_law_307 : decode cL_law 307 = .ok (.ireturn, 1) := by decide +kernel
theorem dL_law_308 : decode cL_law 308 = .ok (.iinc 6 1, 3) := by decide +kernel
theorem dL_law_311 : decode cL_law 311 = .ok (.goto (-39), 3) := by decide +kernel
theorem dL_law_314 : decode cL_law 314 = .ok (.iload_n 2, 1) := by decide +kernel
theorem dL_law_315 : decode cL_law 315 = .ok (.bipush 12, 2) := by decide +kernel
theorem dL_law_317 : decode cL_law 317 = .ok (.irem, 1) := by decide +kernel
theorem dL_law_318 : decode cL_law 318 = .ok (.bipush 11, 2) := by decide +kernel
theorem dL_law_320 : decode cL_law 320 = .ok (.if_icmp .ne 28, 3) := by decide +kernel
theorem dL_law_323 : decode cL_law 323 = .ok (.aload_n 1, 1) := by decide +kernel
theorem dL_law_324 : decode cL_law 324 = .ok (.invokevirtual 60, 3) := by decide +kernel
theorem dL_law_327 : decode cL_law 327 = .ok (.lstore 6, 2) := by decide +kernel
theorem dL_law_329 : decode cL_law 329 = .ok (.aload_n 1, 1) := by decide +kernel
theorem dL_law_330 : decode cL_law 330 = .ok (.invokevirtual 63, 3) := by decide +kernel
theorem dL_law_333 : decode cL_law 333 = .ok (.ifCond .eq 13, 3) := by decide +kernel
theorem dL_law_336 : decode cL_law 336 = .ok (.aload_n 1, 1) := by decide +kernel
theorem dL_law_337 : decode cL_law 337 = .ok (.invokevirtual 60, 3) := by decide +kernel
theorem dL_law_340 : decode cL_law 340 = .ok (.lload 6, 2) := by decide +kernel
theorem dL_law_342 : decode cL_law 342 = .ok (.lcmp, 1) := by decide +kernel
theorem dL_law_343 : decode cL_law 343 = .ok (.ifCond .eq 5, 3) := by decide +kernel
theorem dL_law_346 : decode cL_law 346 = .ok (.iconst 0, 1) := by decide +kernel
theorem dL_law_347 : decode cL_law 347 = .ok (.ireturn, 1) := by decide +kernel
theorem dL_law_348 : decode cL_law 348 = .ok (.iinc 2 1, 3) := by decide +kernel
theorem dL_law_351 : decode cL_law 351 = .ok (.goto (-308), 3) := by decide +kernel
theorem dL_law_354 : decode cL_law 354 = .ok (.iconst 1, 1) := by decide +kernel
theorem dL_law_355 : decode cL_law 355 = .ok (.ireturn, 1) := by decide +kernel
theorem dL_rate_0 : decode cL_rate 0 = .ok (.iconst 2, 1) := by decide +kernel
theorem dL_rate_1 : decode cL_rate 1 = .ok (.newarray .long, 2) := by decide +kernel
theorem dL_rate_3 : decode cL_rate 3 = .ok (.dup, 1) := by decide +kernel
theorem dL_rate_4 : decode cL_rate 4 = .ok (.iconst 0, 1) := by decide +kernel
theorem dL_rate_5 : decode cL_rate 5 = .ok (.aload_n 0, 1) := by decide +kernel
theorem dL_rate_6 : decode cL_rate 6 = .ok (.iload_n 1, 1) := by decide +kernel
theorem dL_rate_7 : decode cL_rate 7 = .ok (.iconst 0, 1) := by decide +kernel
theorem dL_rate_8 : decode cL_rate 8 = .ok (.iconst 1, 1) := by decide +kernel
theorem dL_rate_9 : decode cL_rate 9 = .ok (.invokevirtual 67, 3) := by decide +kernel
theorem dL_rate_12 : decode cL_rate 12 = .ok (.lastore, 1) := by decide +kernel
theorem dL_rate_13 : decode cL_rate 13 = .ok (.dup, 1) := by decide +kernel
theorem dL_rate_14 : decode cL_rate 14 = .ok (.iconst 1, 1) := by decide +kernel
theorem dL_rate_15 : decode cL_rate 15 = .ok (.aload_n 0, 1) := by decide +kernel
theorem dL_rate_16 : decode cL_rate 16 = .ok (.iload_n 1, 1) := by decide +kernel
theorem dL_rate_17 : decode cL_rate 17 = .ok (.iconst 0, 1) := by decide +kernel
theorem dL_rate_18 : decode cL_rate 18 = .ok (.iconst 0, 1) := by decide +kernel
theorem dL_rate_19 : decode cL_rate 19 = .ok (.invokevirtual 67, 3) := by decide +kernel
theorem dL_rate_22 : decode cL_rate 22 = .ok (.lastore, 1) := by decide +kernel
theorem dL_rate_23 : decode cL_rate 23 = .ok (.areturn, 1) := by decide +kernel
theorem dL_isPeriod_0 : decode cL_isPeriod 0 = .ok (.bipush 7, 2) := by decide +kernel
theorem dL_isPeriod_2 : decode cL_isPeriod 2 = .ok (.anewarray 71, 3) := by decide +kernel
theorem dL_isPeriod_5 : decode cL_isPeriod 5 = .ok (.astore_n 2, 1) := by decide +kernel
theorem dL_isPeriod_6 : decode cL_isPeriod 6 = .ok (.iconst 0, 1) := by decide +kernel
theorem dL_isPeriod_7 : decode cL_isPeriod 7 = .ok (.istore_n 3, 1) := by decide +kernel
theorem dL_isPeriod_8 : decode cL_isPeriod 8 = .ok (.iload_n 3, 1) := by decide +kernel
theorem dL_isPeriod_9 : decode cL_isPeriod 9 = .ok (.bipush 7, 2) := by decide +kernel
theorem dL_isPeriod_11 : decode cL_isPeriod 11 = .ok (.if_icmp .ge 17, 3) := by decide +kernel
theorem dL_isPeriod_14 : decode cL_isPeriod 14 = .ok (.aload_n 2, 1) := by decide +kernel
theorem dL_isPeriod_15 : decode cL_isPeriod 15 = .ok (.iload_n 3, 1) := by decide +kernel
theorem dL_isPeriod_16 : decode cL_isPeriod 16 = .ok (.aload_n 0, 1) := by decide +kernel
theorem dL_isPeriod_17 : decode cL_isPeriod 17 = .ok (.iload_n 3, 1) := by decide +kernel
theorem dL_isPeriod_18 : decode cL_isPeriod 18 = .ok (.invokestatic 36, 3) := by decide +kernel
theorem dL_isPeriod_21 : decode cL_isPeriod 21 = .ok (.aastore, 1) := by decide +kernel
theorem dL_isPeriod_22 : decode cL_isPeriod 22 = .ok (.iinc 3 1, 3) := by decide +kernel
theorem dL_isPeriod_25 : decode cL_isPeriod 25 = .ok (.goto (-17), 3) := by decide +kernel
theorem dL_isPeriod_28 : decode cL_isPeriod 28 = .ok (.iconst 1, 1) := by decide +kernel
theorem dL_isPeriod_29 : decode cL_isPeriod 29 = .ok (.istore_n 3, 1) := by decide +kernel
theorem dL_isPeriod_30 : decode cL_isPeriod 30 = .ok (.iload_n 3, 1) := by decide +kernel
theorem dL_isPeriod_31 : decode cL_isPeriod 31 = .ok (.iload_n 1, 1) := by decide +kernel
theorem dL_isPeriod_32 : decode cL_isPeriod 32 = .ok (.if_icmp .gt 87, 3) := by decide +kernel
theorem dL_isPeriod_35 : decode cL_isPeriod 35 = .ok (.iconst 1, 1) := by decide +kernel
theorem dL_isPeriod_36 : decode cL_isPeriod 36 = .ok (.istore 4, 2) := by decide +kernel
theorem dL_isPeriod_38 : decode cL_isPeriod 38 = .ok (.aload_n 2, 1) := by decide +kernel
theorem dL_isPeriod_39 : decode cL_isPeriod 39 = .ok (.astore 5, 2) := by decide +kernel
theorem dL_isPeriod_41 : decode cL_isPeriod 41 = .ok (.aload 5, 2) := by decide +kernel
theorem dL_isPeriod_43 : decode cL_isPeriod 43 = .ok (.arraylength, 1) := by decide +kernel
theorem dL_isPeriod_44 : decode cL_isPeriod 44 = .ok (.istore 6, 2) := by decide +kernel
theorem dL_isPeriod_46 : decode cL_isPeriod 46 = .ok (.iconst 0, 1) := by decide +kernel
theorem dL_isPeriod_47 : decode cL_isPeriod 47 = .ok (.istore 7, 2) := by decide +kernel
theorem dL_isPeriod_49 : decode cL_isPeriod 49 = .ok (.iload 7, 2) := by decide +kernel
theorem dL_isPeriod_51 : decode cL_isPeriod 51 = .ok (.iload 6, 2) := by decide +kernel
theorem dL_isPeriod_53 : decode cL_isPeriod 53 = .ok (.if_icmp .ge 43, 3) := by decide +kernel
theorem dL_isPeriod_56 : decode cL_isPeriod 56 = .ok (.aload 5, 2) := by decide +kernel
theorem dL_isPeriod_58 : decode cL_isPeriod 58 = .ok (.iload 7, 2) := by decide +kernel
theorem dL_isPeriod_60 : decode cL_isPeriod 60 = .ok (.aaload, 1) := by decide +kernel
theorem dL_isPeriod_61 : decode cL_isPeriod 61 = .ok (.astore 8, 2) := by decide +kernel
theorem dL_isPeriod_63 : decode cL_isPeriod 63 = .ok (.iload 4, 2) := by decide +kernel
theorem dL_isPeriod_65 : decode cL_isPeriod 65 = .ok (.aload 8, 2) := by decide +kernel
theorem dL_isPeriod_67 : decode cL_isPeriod 67 = .ok (.iconst 0, 1) := by decide +kernel
theorem dL_isPeriod_68 : decode cL_isPeriod 68 = .ok (.laload, 1) := by decide +kernel
theorem dL_isPeriod_69 : decode cL_isPeriod 69 = .ok (.iload_n 3, 1) := by decide +kernel
theorem dL_isPeriod_70 : decode cL_isPeriod 70 = .ok (.i2l, 1) := by decide +kernel
theorem dL_isPeriod_71 : decode cL_isPeriod 71 = .ok (.lmul, 1) := by decide +kernel
theorem dL_isPeriod_72 : decode cL_isPeriod 72 = .ok (.aload 8, 2) := by decide +kernel
theorem dL_isPeriod_74 : decode cL_isPeriod 74 = .ok (.iconst 1, 1) := by decide +kernel
theorem dL_isPeriod_75 : decode cL_isPeriod 75 = .ok (.laload, 1) := by decide +kernel
theorem dL_isPeriod_76 : decode cL_isPeriod 76 = .ok (.lrem, 1) := by decide +kernel
theorem dL_isPeriod_77 : decode cL_isPeriod 77 = .ok (.lconst 0, 1) := by decide +kernel
theorem dL_isPeriod_78 : decode cL_isPeriod 78 = .ok (.lcmp, 1) := by decide +kernel
theorem dL_isPeriod_79 : decode cL_isPeriod 79 = .ok (.ifCond .ne 7, 3) := by decide +kernel
theorem dL_isPeriod_82 : decode cL_isPeriod 82 = .ok (.iconst 1, 1) := by decide +kernel
theorem dL_isPeriod_83 : decode cL_isPeriod 83 = .ok (.goto 4, 3) := by decide +kernel
theorem dL_isPeriod_86 : decode cL_isPeriod 86 = .ok (.iconst 0, 1) := by decide +kernel
theorem dL_isPeriod_87 : decode cL_isPeriod 87 = .ok (.iand, 1) := by decide +kernel
theorem dL_isPeriod_88 : decode cL_isPeriod 88 = .ok (.istore 4, 2) := by decide +kernel
theorem dL_isPeriod_90 : decode cL_isPeriod 90 = .ok (.iinc 7 1, 3) := by decide +kernel
theorem dL_isPeriod_93 : decode cL_isPeriod 93 = .ok (.goto (-44), 3) := by decide +kernel
theorem dL_isPeriod_96 : decode cL_isPeriod 96 = .ok (.iload 4, 2) := by decide +kernel
theorem dL_isPeriod_98 : decode cL_isPeriod 98 = .ok (.iload_n 3, 1) := by decide +kernel
theorem dL_isPeriod_99 : decode cL_isPeriod 99 = .ok (.iload_n 1, 1) := by decide +kernel
theorem dL_isPeriod_100 : decode cL_isPeriod 100 = .ok (.if_icmp .ne 7, 3) := by decide +kernel
theorem dL_isPeriod_103 : decode cL_isPeriod 103 = .ok (.iconst 1, 1) := by decide +kernel
theorem dL_isPeriod_104 : decode cL_isPeriod 104 = .ok (.goto 4, 3) := by decide +kernel
theorem dL_isPeriod_107 : decode cL_isPeriod 107 = .ok (.iconst 0, 1) := by decide +kernel
theorem dL_isPeriod_108 : decode cL_isPeriod 108 = .ok (.if_icmp .eq 5, 3) := by decide +kernel
theorem dL_isPeriod_111 : decode cL_isPeriod 111 = .ok (.iconst 0, 1) := by decide +kernel
theorem dL_isPeriod_112 : decode cL_isPeriod 112 = .ok (.ireturn, 1) := by decide +kernel
theorem dL_isPeriod_113 : decode cL_isPeriod 113 = .ok (.iinc 3 1, 3) := by decide +kernel
theorem dL_isPeriod_116 : decode cL_isPeriod 116 = .ok (.goto (-86), 3) := by decide +kernel
theorem dL_isPeriod_119 : decode cL_isPeriod 119 = .ok (.iconst 1, 1) := by decide +kernel
theorem dL_isPeriod_120 : decode cL_isPeriod 120 = .ok (.ireturn, 1) := by decide +kernel
theorem dL_hangs_0 : decode cL_hangs 0 = .ok (.aload_n 0, 1) := by decide +kernel
theorem dL_hangs_1 : decode cL_hangs 1 = .ok (.iload_n 1, 1) := by decide +kernel
theorem dL_hangs_2 : decode cL_hangs 2 = .ok (.iconst 1, 1) := by decide +kernel
theorem dL_hangs_3 : decode cL_hangs 3 = .ok (.invokevirtual 54, 3) := by decide +kernel
theorem dL_hangs_6 : decode cL_hangs 6 = .ok (.iconst 1, 1) := by decide +kernel
theorem dL_hangs_7 : decode cL_hangs 7 = .ok (.if_icmp .ne 5, 3) := by decide +kernel
theorem dL_hangs_10 : decode cL_hangs 10 = .ok (.iconst 1, 1) := by decide +kernel
theorem dL_hangs_11 : decode cL_hangs 11 = .ok (.ireturn, 1) := by decide +kernel
theorem dL_hangs_12 : decode cL_hangs 12 = .ok (.iconst 0, 1) := by decide +kernel
theorem dL_hangs_13 : decode cL_hangs 13 = .ok (.istore_n 2, 1) := by decide +kernel
theorem dL_hangs_14 : decode cL_hangs 14 = .ok (.iload_n 2, 1) := by decide +kernel
theorem dL_hangs_15 : decode cL_hangs 15 = .ok (.iload_n 1, 1) := by decide +kernel
theorem dL_hangs_16 : decode cL_hangs 16 = .ok (.if_icmp .ge 33, 3) := by decide +kernel
theorem dL_hangs_19 : decode cL_hangs 19 = .ok (.aload_n 0, 1) := by decide +kernel
theorem dL_hangs_20 : decode cL_hangs 20 = .ok (.iload_n 1, 1) := by decide +kernel
theorem dL_hangs_21 : decode cL_hangs 21 = .ok (.iconst 0, 1) := by decide +kernel
theorem dL_hangs_22 : decode cL_hangs 22 = .ok (.invokevirtual 54, 3) := by decide +kernel
theorem dL_hangs_25 : decode cL_hangs 25 = .ok (.iload_n 2, 1) := by decide +kernel
theorem dL_hangs_26 : decode cL_hangs 26 = .ok (.ishr, 1) := by decide +kernel
theorem dL_hangs_27 : decode cL_hangs 27 = .ok (.iconst 1, 1) := by decide +kernel
theorem dL_hangs_28 : decode cL_hangs 28 = .ok (.iand, 1) := by decide +kernel
theorem dL_hangs_29 : decode cL_hangs 29 = .ok (.iconst 1, 1) := by decide +kernel
theorem dL_hangs_30 : decode cL_hangs 30 = .ok (.if_icmp .ne 13, 3) := by decide +kernel
theorem dL_hangs_33 : decode cL_hangs 33 = .ok (.aload_n 0, 1) := by decide +kernel
theorem dL_hangs_34 : decode cL_hangs 34 = .ok (.iload_n 2, 1) := by decide +kernel
theorem dL_hangs_35 : decode cL_hangs 35 = .ok (.invokestatic 57, 3) := by decide +kernel
theorem dL_hangs_38 : decode cL_hangs 38 = .ok (.ifCond .eq 5, 3) := by decide +kernel
theorem dL_hangs_41 : decode cL_hangs 41 = .ok (.iconst 1, 1) := by decide +kernel
theorem dL_hangs_42 : decode cL_hangs 42 = .ok (.ireturn, 1) := by decide +kernel
theorem dL_hangs_43 : decode cL_hangs 43 = .ok (.iinc 2 1, 3) := by decide +kernel
theorem dL_hangs_46 : decode cL_hangs 46 = .ok (.goto (-32), 3) := by decide +kernel
theorem dL_hangs_49 : decode cL_hangs 49 = .ok (.iconst 0, 1) := by decide +kernel
theorem dL_hangs_50 : decode cL_hangs 50 = .ok (.ireturn, 1) := by decide +kernel
theorem dL_act_0 : decode cL_act 0 = .ok (.iload_n 2, 1) := by decide +kernel
theorem dL_act_1 : decode cL_act 1 = .ok (.tableswitch 207 0 8 #[51, 75, 75, 75, 97, 119, 119, 140, 178], 51) := by decide +kernel
theorem dL_act_52 : decode cL_act 52 = .ok (.aload_n 0, 1) := by decide +kernel
theorem dL_act_53 : decode cL_act 53 = .ok (.iload_n 1, 1) := by decide +kernel
theorem dL_act_54 : decode cL_act 54 = .ok (.bipush 7, 2) := by decide +kernel
theorem dL_act_56 : decode cL_act 56 = .ok (.invokestatic 18, 3) := by decide +kernel
theorem dL_act_59 : decode cL_act 59 = .ok (.iconst 4, 1) := by decide +kernel
theorem dL_act_60 : decode cL_act 60 = .ok (.iload_n 1, 1) := by decide +kernel
theorem dL_act_61 : decode cL_act 61 = .ok (.iconst 3, 1) := by decide +kernel
theorem dL_act_62 : decode cL_act 62 = .ok (.ishr, 1) := by decide +kernel
theorem dL_act_63 : decode cL_act 63 = .ok (.bipush 30, 2) := by decide +kernel
theorem dL_act_65 : decode cL_act 65 = .ok (.invokestatic 18, 3) := by decide +kernel
theorem dL_act_68 : decode cL_act 68 = .ok (.iadd, 1) := by decide +kernel
theorem dL_act_69 : decode cL_act 69 = .ok (.invokevirtual 22, 3) := by decide +kernel
theorem dL_act_72 : decode cL_act 72 = .ok (.pop, 1) := by decide +kernel
theorem dL_act_73 : decode cL_act 73 = .ok (.goto 157, 3) := by decide +kernel
theorem dL_act_76 : decode cL_act 76 = .ok (.aload_n 0, 1) := by decide +kernel
theorem dL_act_77 : decode cL_act 77 = .ok (.iload_n 1, 1) := by decide +kernel
theorem dL_act_78 : decode cL_act 78 = .ok (.bipush 12, 2) := by decide +kernel
theorem dL_act_80 : decode cL_act 80 = .ok (.invokestatic 18, 3) := by decide +kernel
theorem dL_act_83 : decode cL_act 83 = .ok (.iload_n 1, 1) := by decide +kernel
theorem dL_act_84 : decode cL_act 84 = .ok (.iconst 3, 1) := by decide +kernel
theorem dL_act_85 : decode cL_act 85 = .ok (.ishr, 1) := by decide +kernel
theorem dL_act_86 : decode cL_act 86 = .ok (.bipush 12, 2) := by decide +kernel
theorem dL_act_88 : decode cL_act 88 = .ok (.invokestatic 18, 3) := by decide +kernel
theorem dL_act_91 : decode cL_act 91 = .ok (.invokevirtual 73, 3) := by decide +kernel
theorem dL_act_94 : decode cL_act 94 = .ok (.pop, 1) := by decide +kernel
theorem dL_act_95 : decode cL_act 95 = .ok (.goto 135, 3) := by decide +kernel
theorem dL_act_98 : decode cL_act 98 = .ok (.aload_n 0, 1) := by decide +kernel
theorem dL_act_99 : decode cL_act 99 = .ok (.iload_n 1, 1) := by decide +kernel
theorem dL_act_100 : decode cL_act 100 = .ok (.bipush 12, 2) := by decide +kernel
theorem dL_act_102 : decode cL_act 102 = .ok (.invokestatic 18, 3) := by decide +kernel
theorem dL_act_105 : decode cL_act 105 = .ok (.iload_n 1, 1) := by decide +kernel
theorem dL_act_106 : decode cL_act 106 = .ok (.iconst 3, 1) := by decide +kernel
theorem dL_act_107 : decode cL_act 107 = .ok (.ishr, 1) := by decide +kernel
theorem dL_act_108 : decode cL_act 108 = .ok (.bipush 12, 2) := by decide +kernel
theorem dL_act_110 : decode cL_act 110 = .ok (.invokestatic 18, 3) := by decide +kernel
theorem dL_act_113 : decode cL_act 113 = .ok (.invokevirtual 77, 3) := by decide +kernel
theorem dL_act_116 : decode cL_act 116 = .ok (.pop, 1) := by decide +kernel
theorem dL_act_117 : decode cL_act 117 = .ok (.goto 113, 3) := by decide +kernel
theorem dL_act_120 : decode cL_act 120 = .ok (.aload_n 0, 1) := by decide +kernel
theorem dL_act_121 : decode cL_act 121 = .ok (.iload_n 1, 1) := by decide +kernel
theorem dL_act_122 : decode cL_act 122 = .ok (.iconst 3, 1) := by decide +kernel
theorem dL_act_123 : decode cL_act 123 = .ok (.ishr, 1) := by decide +kernel
theorem dL_act_124 : decode cL_act 124 = .ok (.sipush 1999, 3) := by decide +kernel
theorem dL_act_127 : decode cL_act 127 = .ok (.invokestatic 18, 3) := by decide +kernel
theorem dL_act_130 : decode cL_act 130 = .ok (.sipush 999, 3) := by decide +kernel
theorem dL_act_133 : decode cL_act 133 = .ok (.isub, 1) := by decide +kernel
theorem dL_act_134 : decode cL_act 134 = .ok (.invokevirtual 80, 3) := by decide +kernel
theorem dL_act_137 : decode cL_act 137 = .ok (.pop, 1) := by decide +kernel
theorem dL_act_138 : decode cL_act 138 = .ok (.goto 92, 3) := by decide +kernel
theorem dL_act_141 : decode cL_act 141 = .ok (.aload_n 0, 1) := by decide +kernel
theorem dL_act_142 : decode cL_act 142 = .ok (.iload_n 1, 1) := by decide +kernel
theorem dL_act_143 : decode cL_act 143 = .ok (.iconst 3, 1) := by decide +kernel
theorem dL_act_144 : decode cL_act 144 = .ok (.ishr, 1) := by decide +kernel
theorem dL_act_145 : decode cL_act 145 = .ok (.sipush 4096, 3) := by decide +kernel
theorem dL_act_148 : decode cL_act 148 = .ok (.invokestatic 18, 3) := by decide +kernel
theorem dL_act_151 : decode cL_act 151 = .ok (.iconst 1, 1) := by decide +kernel
theorem dL_act_152 : decode cL_act 152 = .ok (.aload_n 0, 1) := by decide +kernel
theorem dL_act_153 : decode cL_act 153 = .ok (.iconst 4, 1) := by decide +kernel
theorem dL_act_154 : decode cL_act 154 = .ok (.invokevirtual 29, 3) := by decide +kernel
theorem dL_act_157 : decode cL_act 157 = .ok (.ishl, 1) := by decide +kernel
theorem dL_act_158 : decode cL_act 158 = .ok (.iconst 1, 1) := by decide +kernel
theorem dL_act_159 : decode cL_act 159 = .ok (.isub, 1) := by decide +kernel
theorem dL_act_160 : decode cL_act 160 = .ok (.iand, 1) := by decide +kernel
theorem dL_act_161 : decode cL_act 161 = .ok (.iload_n 1, 1) := by decide +kernel
theorem dL_act_162 : decode cL_act 162 = .ok (.bipush 6, 2) := by decide +kernel
theorem dL_act_164 : decode cL_act 164 = .ok (.ishr, 1) := by decide +kernel
theorem dL_act_165 : decode cL_act 165 = .ok (.sipush 4096, 3) := by decide +kernel
theorem dL_act_168 : decode cL_act 168 = .ok (.invokestatic 18, 3) := by decide +kernel
theorem dL_act_171 : decode cL_act 171 = .ok (.iand, 1) := by decide +kernel
theorem dL_act_172 : decode cL_act 172 = .ok (.invokevirtual 83, 3) := by decide +kernel
theorem dL_act_175 : decode cL_act 175 = .ok (.pop, 1) := by decide +kernel
theorem dL_act_176 : decode cL_act 176 = .ok (.goto 54, 3) := by decide +kernel
theorem dL_act_179 : decode cL_act 179 = .ok (.aload_n 0, 1) := by decide +kernel
theorem dL_act_180 : decode cL_act 180 = .ok (.iload_n 1, 1) := by decide +kernel
theorem dL_act_181 : decode cL_act 181 = .ok (.bipush 12, 2) := by decide +kernel
theorem dL_act_183 : decode cL_act 183 = .ok (.invokestatic 18, 3) := by decide +kernel
theorem dL_act_186 : decode cL_act 186 = .ok (.iload_n 1, 1) := by decide +kernel
theorem dL_act_187 : decode cL_act 187 = .ok (.iconst 3, 1) := by decide +kernel
theorem dL_act_188 : decode cL_act 188 = .ok (.ishr, 1) := by decide +kernel
theorem dL_act_189 : decode cL_act 189 = .ok (.iconst 3, 1) := by decide +kernel
theorem dL_act_190 : decode cL_act 190 = .ok (.invokestatic 18, 3) := by decide +kernel
theorem dL_act_193 : decode cL_act 193 = .ok (.ifCond .ne 7, 3) := by decide +kernel
theorem dL_act_196 : decode cL_act 196 = .ok (.iconst 1, 1) := by decide +kernel
theorem dL_act_197 : decode cL_act 197 = .ok (.goto 4, 3) := by decide +kernel
theorem dL_act_200 : decode cL_act 200 = .ok (.iconst 0, 1) := by decide +kernel
theorem dL_act_201 : decode cL_act 201 = .ok (.invokevirtual 86, 3) := by decide +kernel
theorem dL_act_204 : decode cL_act 204 = .ok (.pop, 1) := by decide +kernel
theorem dL_act_205 : decode cL_act 205 = .ok (.goto 25, 3) := by decide +kernel
theorem dL_act_208 : decode cL_act 208 = .ok (.aload_n 0, 1) := by decide +kernel
theorem dL_act_209 : decode cL_act 209 = .ok (.iload_n 1, 1) := by decide +kernel
theorem dL_act_210 : decode cL_act 210 = .ok (.bipush 7, 2) := by decide +kernel
theorem dL_act_212 : decode cL_act 212 = .ok (.invokestatic 18, 3) := by decide +kernel
theorem dL_act_215 : decode cL_act 215 = .ok (.iconst 2, 1) := by decide +kernel
theorem dL_act_216 : decode cL_act 216 = .ok (.iload_n 1, 1) := by decide +kernel
theorem dL_act_217 : decode cL_act 217 = .ok (.iconst 3, 1) := by decide +kernel
theorem dL_act_218 : decode cL_act 218 = .ok (.ishr, 1) := by decide +kernel
theorem dL_act_219 : decode cL_act 219 = .ok (.sipush 239, 3) := by decide +kernel
theorem dL_act_222 : decode cL_act 222 = .ok (.invokestatic 18, 3) := by decide +kernel
theorem dL_act_225 : decode cL_act 225 = .ok (.iadd, 1) := by decide +kernel
theorem dL_act_226 : decode cL_act 226 = .ok (.invokevirtual 90, 3) := by decide +kernel
theorem dL_act_229 : decode cL_act 229 = .ok (.pop, 1) := by decide +kernel
theorem dL_act_230 : decode cL_act 230 = .ok (.goto 9, 3) := by decide +kernel
theorem dL_act_233 : decode cL_act 233 = .ok (.astore_n 3, 1) := by decide +kernel
theorem dL_act_234 : decode cL_act 234 = .ok (.return_, 1) := by decide +kernel
theorem dL_act_235 : decode cL_act 235 = .ok (.astore_n 3, 1) := by decide +kernel
theorem dL_act_236 : decode cL_act 236 = .ok (.return_, 1) := by decide +kernel
theorem dL_act_237 : decode cL_act 237 = .ok (.astore_n 3, 1) := by decide +kernel
theorem dL_act_238 : decode cL_act 238 = .ok (.return_, 1) := by decide +kernel
theorem dL_act_239 : decode cL_act 239 = .ok (.return_, 1) := by decide +kernel

