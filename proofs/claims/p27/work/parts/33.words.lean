theorem mem_ix {big ws : List Cond} (ps : List Nat) (hp : ws = ps.filterMap (fun i => big[i]?)) : ∀ w ∈ ws, w ∈ big := by
  intro w hw
  rw [hp] at hw
  obtain ⟨i, -, hi⟩ := List.mem_filterMap.mp hw
  exact List.mem_of_getElem? hi
theorem mem_app {a b T : List Cond} (ha : ∀ w ∈ a, w ∈ T) (hb : ∀ w ∈ b, w ∈ T) : ∀ w ∈ a ++ b, w ∈ T := fun w h => (List.mem_append.mp h).elim (ha w) (hb w)
theorem mem_nil {T : List Cond} : ∀ w ∈ ([] : List Cond), w ∈ T := fun _ h => absurd h List.not_mem_nil
set_option maxRecDepth 20000 in
theorem wsL_law0_r1_in : ∀ w ∈ wsL_law0_r1, w ∈ lw_tbl := mem_ix [30, 31, 16, 649, 32, 33, 34, 35, 36, 37, 38, 39, 17, 223, 63, 224, 130, 131, 19, 225, 177, 178, 21, 226] (by decide +kernel)
set_option maxRecDepth 20000 in
theorem wsL_law0_r2_in : ∀ w ∈ wsL_law0_r2, w ∈ lw_tbl := mem_ix [197, 198, 22, 227, 40, 41, 42, 43, 106, 107, 108, 44, 45, 18, 109, 110, 111, 112, 46, 47, 48, 49, 53, 55] (by decide +kernel)
set_option maxRecDepth 20000 in
theorem wsL_law0_r3_in : ∀ w ∈ wsL_law0_r3, w ∈ lw_tbl := mem_ix [51, 52, 65, 67, 0, 68, 104, 69, 70, 71, 72, 74, 75, 76, 78, 1, 79, 80, 81, 82, 83, 84, 85, 86] (by decide +kernel)
set_option maxRecDepth 20000 in
theorem wsL_law0_r4_in : ∀ w ∈ wsL_law0_r4, w ∈ lw_tbl := mem_ix [87, 88, 89, 90, 92, 93, 94, 95, 96, 97, 98, 99, 100, 101, 102, 103, 132, 133, 134, 135, 155, 156, 157, 158] (by decide +kernel)
set_option maxRecDepth 20000 in
theorem wsL_law0_r5_in : ∀ w ∈ wsL_law0_r5, w ∈ lw_tbl := mem_ix [159, 160, 161, 136, 138, 2, 139, 140, 142, 3, 143, 149, 150, 20, 151, 144, 145, 146, 147, 153, 154, 179, 180, 181] (by decide +kernel)
set_option maxRecDepth 20000 in
theorem wsL_law0_r6_in : ∀ w ∈ wsL_law0_r6, w ∈ lw_tbl := mem_ix [182, 186, 187, 199, 200, 201, 202, 203, 205, 4, 206, 207, 208, 209, 210, 211, 565, 566, 15, 567, 568, 561, 562, 563] (by decide +kernel)
set_option maxRecDepth 20000 in
theorem wsL_law0_r7_in : ∀ w ∈ wsL_law0_r7, w ∈ lw_tbl := mem_ix [564, 248, 249, 250, 251, 105, 252, 253, 254, 255, 256, 257, 258, 259, 260, 261, 26, 329, 330, 331, 332, 27, 348, 349] (by decide +kernel)
set_option maxRecDepth 20000 in
theorem wsL_law0_r8_in : ∀ w ∈ wsL_law0_r8, w ∈ lw_tbl := mem_ix [350, 351, 28, 367, 368, 369, 370, 585, 586, 587, 588, 589, 590, 591, 592, 593, 594, 229, 376, 378, 6, 379, 595, 596] (by decide +kernel)
set_option maxRecDepth 20000 in
theorem wsL_law0_r9_in : ∀ w ∈ wsL_law0_r9, w ∈ lw_tbl := mem_ix [597, 598, 599, 600, 601, 602, 603, 604, 605, 606, 607, 608, 609, 610, 611, 612, 613, 614, 481, 615, 616, 617, 618, 619] (by decide +kernel)
set_option maxRecDepth 20000 in
theorem wsL_law0_r10_in : ∀ w ∈ wsL_law0_r10, w ∈ lw_tbl := mem_ix [620, 621, 622, 228, 454, 455, 456, 457, 184, 230, 458, 459, 460, 461, 462, 449, 29, 450, 451, 452, 453, 463, 464, 465] (by decide +kernel)
set_option maxRecDepth 20000 in
theorem wsL_law0_r11_in : ∀ w ∈ wsL_law0_r11, w ∈ lw_tbl := mem_ix [466, 467, 384, 385, 386, 468, 445, 446, 447, 185, 436, 438, 9, 439, 183, 448, 469, 470, 471, 472, 623, 624, 625, 626] (by decide +kernel)
set_option maxRecDepth 20000 in
theorem wsL_law0_r12_in : ∀ w ∈ wsL_law0_r12, w ∈ lw_tbl := mem_ix [627, 628, 629, 630, 631, 632, 633, 634, 636, 637, 638, 639, 418, 420, 8, 421, 640, 641, 642, 643, 644, 645, 646, 647] (by decide +kernel)
set_option maxRecDepth 20000 in
theorem wsL_law0_r13_in : ∀ w ∈ wsL_law0_r13, w ∈ lw_tbl := mem_ix [531, 648, 372, 373, 374, 375, 380, 381, 382, 383, 569, 570, 571, 576, 572, 573, 574, 575, 509, 511, 12, 512, 395, 396] (by decide +kernel)
set_option maxRecDepth 20000 in
theorem wsL_law0_r14_in : ∀ w ∈ wsL_law0_r14, w ∈ lw_tbl := mem_ix [397, 398, 513, 514, 515, 516, 412, 517, 518, 519, 520, 521, 522, 20, 523, 400, 401, 402, 403, 387, 388, 389, 390, 391] (by decide +kernel)
set_option maxRecDepth 20000 in
theorem wsL_law0_r15_in : ∀ w ∈ wsL_law0_r15, w ∈ lw_tbl := mem_ix [393, 7, 394, 399, 404, 405, 406, 407, 408, 409, 410, 411, 56, 577, 578, 579, 580, 414, 415, 416, 417, 422, 423, 424] (by decide +kernel)
set_option maxRecDepth 20000 in
theorem wsL_law0_r16_in : ∀ w ∈ wsL_law0_r16, w ∈ lw_tbl := mem_ix [425, 427, 428, 429, 430, 432, 433, 434, 435, 440, 441, 442, 443, 444, 582, 583, 584, 495, 496, 497, 498, 499, 500, 501] (by decide +kernel)
set_option maxRecDepth 20000 in
theorem wsL_law0_r17_in : ∀ w ∈ wsL_law0_r17, w ∈ lw_tbl := mem_ix [502, 503, 504, 505, 507, 11, 508, 524, 525, 526, 54, 57, 527, 529, 13, 530, 532, 533, 534, 535, 536, 538, 14, 539] (by decide +kernel)
set_option maxRecDepth 20000 in
theorem wsL_law0_r18_in : ∀ w ∈ wsL_law0_r18, w ∈ lw_tbl := mem_ix [540, 541, 542, 543, 544, 545, 546, 547, 548, 549, 550, 551, 552, 553, 554, 555, 556, 557, 558, 559, 560, 474, 475, 476] (by decide +kernel)
set_option maxRecDepth 20000 in
theorem wsL_law0_r19_in : ∀ w ∈ wsL_law0_r19, w ∈ lw_tbl := mem_ix [477, 479, 10, 480, 482, 483, 484, 485, 486, 487, 488, 489, 490, 491, 492, 493, 494, 473] (by decide +kernel)
set_option maxRecDepth 20000 in
theorem inX0 : ∀ w ∈ wsX00, w ∈ lw_tbl := by decide +kernel
set_option maxRecDepth 20000 in
theorem inX1 : ∀ w ∈ wsX10, w ∈ lw_tbl := by decide +kernel
set_option maxRecDepth 20000 in
theorem inX2 : ∀ w ∈ wsX20, w ∈ lw_tbl := by decide +kernel
set_option maxRecDepth 20000 in
theorem inX3 : ∀ w ∈ wsX30, w ∈ lw_tbl := by decide +kernel
set_option maxRecDepth 20000 in
theorem inX4 : ∀ w ∈ wsX40, w ∈ lw_tbl := by decide +kernel
set_option maxRecDepth 20000 in
theorem inX5 : ∀ w ∈ wsX50, w ∈ lw_tbl := by decide +kernel
set_option maxRecDepth 20000 in
theorem wsL_law_x0 : ∀ w ∈ (vx_atS RX5 280 "java/lang/IndexOutOfBoundsException" ["java/lang/RuntimeException", "java/lang/Exception"]).filter goodWord, w ∈ lw_tbl := by decide +kernel
set_option maxRecDepth 20000 in
theorem wsL_law_x1 : ∀ w ∈ (vx_atS RX5 287 "java/lang/IllegalArgumentException" ["java/lang/RuntimeException", "java/lang/Exception"]).filter goodWord, w ∈ lw_tbl := by decide +kernel
set_option maxRecDepth 20000 in
theorem wsL_law_x2 : ∀ w ∈ (vx_atS RX5 292 "java/lang/IllegalStateException" ["java/lang/RuntimeException", "java/lang/Exception"]).filter goodWord, w ∈ lw_tbl := by decide +kernel
theorem wsL_law_in0 : ∀ w ∈ wsL_law0, w ∈ lw_tbl := (mem_app (mem_app (mem_app (mem_app (mem_app (mem_app (mem_app (mem_app wsL_law0_r1_in (mem_app wsL_law0_r2_in (mem_app wsL_law0_r3_in (mem_app wsL_law0_r4_in (mem_app wsL_law0_r5_in (mem_app wsL_law0_r6_in (mem_app wsL_law0_r7_in (mem_app wsL_law0_r8_in (mem_app wsL_law0_r9_in (mem_app wsL_law0_r10_in (mem_app wsL_law0_r11_in (mem_app wsL_law0_r12_in (mem_app wsL_law0_r13_in (mem_app wsL_law0_r14_in (mem_app wsL_law0_r15_in (mem_app wsL_law0_r16_in (mem_app wsL_law0_r17_in (mem_app wsL_law0_r18_in wsL_law0_r19_in)))))))))))))))))) inX5) inX2) inX3) inX0) inX4) inX1) mem_nil)
theorem wsL_law_in : ∀ w ∈ wsL_law, w ∈ lw_tbl := mem_app (mem_app (mem_app wsL_law_in0 wsL_law_x0) wsL_law_x1) wsL_law_x2
