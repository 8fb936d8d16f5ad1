theorem dX8_stuck_1 : decode cX8_stuck 1 = .ok (.getfield 35, 3) := by decide +kernel
theorem dX8_stuck_4 : decode cX8_stuck 4 = .ok (.invokevirtual 146, 3) := by decide +kernel
theorem dX8_stuck_7 : decode cX8_stuck 7 = .ok (.ireturn, 1) := by decide +kernel
set_option maxRecDepth 20000 in
theorem ggX8_wouldHit_X8_checkNumber : GoodIn wsX8_wouldHit wsX8_checkNumber := goodIn_ca (goodIn_r _ [7, 8, 9] (by decide +kernel) (by decide +kernel)) (goodIn_sub (fun _ h => List.mem_cons_of_mem _ (List.mem_append_right _ h)) (by decide +kernel))
set_option maxRecDepth 20000 in
theorem gX8_wouldHit_X8_checkNumber : GoodIn wsX8_wouldHit (va_wsS RX8 63 yX8_checkNumber wsX8_checkNumber) := goodIn_app (goodIn_of _ (by decide +kernel)) ggX8_wouldHit_X8_checkNumber
set_option maxRecDepth 20000 in
theorem ggX8_wouldHit_X0_countNewlyHit : GoodIn wsX8_wouldHit wsX0_countNewlyHit := goodIn_r _ [14, 15, 16, 17, 18, 19, 20, 21, 22, 23, 24, 25, 26, 27, 28, 29, 49, 50, 37, 38, 39, 40, 41, 42, 43, 44, 45, 46, 47, 48, 51, 52, 53, 54, 55, 56, 57, 58, 59, 60, 61, 62, 63, 64, 65, 66, 67, 68, 69, 70, 71, 72, 73, 74, 75, 76, 77, 78, 79, 80, 81] (by decide +kernel) (by decide +kernel)
set_option maxRecDepth 20000 in
theorem gX8_wouldHit_X0_countNewlyHit : GoodIn wsX8_wouldHit (wsV RX8 149 RX0 yX0_countNewlyHit wsX0_countNewlyHit) := goodIn_app (goodIn_of _ (by decide +kernel)) ggX8_wouldHit_X0_countNewlyHit
theorem dX8_wouldHit_0 : decode cX8_wouldHit 0 = .ok (.iload_n 1, 1) := by decide +kernel
theorem dX8_wouldHit_1 : decode cX8_wouldHit 1 = .ok (.aload_n 0, 1) := by decide +kernel
theorem dX8_wouldHit_2 : decode cX8_wouldHit 2 = .ok (.getfield 19, 3) := by decide +kernel
theorem dX8_wouldHit_5 : decode cX8_wouldHit 5 = .ok (.getfield 114, 3) := by decide +kernel
theorem dX8_wouldHit_8 : decode cX8_wouldHit 8 = .ok (.invokestatic 63, 3) := by decide +kernel
theorem dX8_wouldHit_11 : decode cX8_wouldHit 11 = .ok (.aload_n 0, 1) := by decide +kernel
theorem dX8_wouldHit_12 : decode cX8_wouldHit 12 = .ok (.getfield 35, 3) := by decide +kernel
theorem dX8_wouldHit_15 : decode cX8_wouldHit 15 = .ok (.iload_n 1, 1) := by decide +kernel
theorem dX8_wouldHit_16 : decode cX8_wouldHit 16 = .ok (.invokevirtual 149, 3) := by decide +kernel
theorem dX8_wouldHit_19 : decode cX8_wouldHit 19 = .ok (.ireturn, 1) := by decide +kernel
set_option maxRecDepth 20000 in
theorem ggX8_overBy_X8_checkWithin : GoodIn wsX8_overBy wsX8_checkWithin := goodIn_ca (goodIn_r _ [4, 5, 6] (by decide +kernel) (by decide +kernel)) (goodIn_sub (fun _ h => List.mem_cons_of_mem _ (List.mem_append_right _ h)) (by decide +kernel))
set_option maxRecDepth 20000 in
theorem gX8_overBy_X8_checkWithin : GoodIn wsX8_overBy (va_wsS RX8 90 yX8_checkWithin wsX8_checkWithin) := goodIn_app (goodIn_of _ (by decide +kernel)) ggX8_overBy_X8_checkWithin
set_option maxRecDepth 20000 in
theorem ggX8_overBy_X8_overAfter : GoodIn wsX8_overBy wsX8_overAfter := goodIn_r _ [10, 11, 12, 13, 14, 15, 16, 17, 18, 19, 20, 21, 22, 23, 24, 25, 26, 27, 28, 29, 30, 31, 32, 33, 34, 35, 36, 37, 38, 39, 40, 41, 42, 43, 44, 45, 46, 47, 48, 49, 50, 51, 52, 53, 54, 55, 56, 57, 58, 59, 60, 61, 62, 63, 64, 65, 66, 67, 68, 69, 70, 71, 72, 73, 74, 75, 76, 77, 78, 79, 80, 81, 82, 83, 84, 85, 86, 87, 88, 89, 90, 91, 92, 93, 94, 95, 96, 97, 98, 99, 100, 101, 102, 103, 104, 105, 106, 107, 108, 109, 110, 111, 112, 113, 114, 115, 116, 117, 118, 119, 120, 121, 122, 123, 124, 125, 126, 127, 128, 129, 130, 131, 132, 133, 134, 135, 136, 137, 138, 139, 140, 141, 142, 143, 144, 145, 146, 147, 148, 149, 150, 151, 152, 153, 154, 155, 156, 157, 158, 159, 160, 161, 162, 163, 164, 165, 166, 167, 168, 169, 170, 171, 172, 173, 174, 175, 176, 177, 178, 179, 180, 181, 182, 183, 184, 185, 186, 187, 188, 189, 190, 191, 192, 193, 194, 195, 196, 197, 198, 199, 200, 201, 202, 203, 204, 205, 206, 207, 208, 209, 210, 211, 212, 213, 214, 215, 216, 217, 218, 219, 220, 221, 222, 223, 224, 225, 226, 227, 228, 229, 230, 231, 232, 233, 234, 235, 236, 237, 238, 239, 240, 241, 242, 243, 244, 245, 246, 247, 248, 249, 250, 251, 252, 253, 254, 255, 256, 257, 258, 259, 260, 261, 262, 263, 264, 265, 266, 267, 268, 269, 270, 271, 272, 273, 274, 275, 276, 277, 278, 279, 280, 281, 282, 283, 284, 285, 286, 287, 288, 289, 290, 291, 292, 293, 294, 295, 296, 297, 298, 299, 300, 301, 302, 303, 304, 305, 306, 307, 308, 309, 310, 311, 312, 313, 314, 315, 316, 317, 318, 319, 320, 321, 322, 323, 324, 325, 326, 327, 328, 329, 330, 331, 332, 333, 334, 335, 336, 337, 338, 339, 340, 341, 342, 343, 344, 345, 346, 347, 348, 349, 350, 351, 352, 353, 354, 355, 356, 357, 358, 359, 360, 361, 362, 363, 364, 365, 366, 367, 368, 369, 370, 371, 372, 373, 374, 375, 376, 377, 378, 379, 380, 381, 382, 383, 384, 385, 386, 387, 388, 389, 390, 391, 392, 393, 394, 395, 396, 397, 398, 399, 400, 401, 402, 403, 404, 405, 406, 407, 408, 409, 410, 411, 412, 413, 414, 415, 416, 417, 418, 419, 420, 421, 422, 423, 424, 425, 426, 427, 428, 429, 430, 431, 432, 433, 434, 435, 436, 437, 438, 439, 440, 441, 442, 443, 444, 445, 446, 447, 448, 449, 450, 451, 452, 453, 454, 455, 456, 457, 458, 459, 460, 461, 462, 463, 464, 465, 466, 467, 468, 469, 470, 471, 472, 473, 474, 475, 476, 477, 478, 479, 480, 481, 482, 483, 484, 485, 486, 487, 488, 489, 490] (by decide +kernel) (by decide +kernel)
set_option maxRecDepth 20000 in
theorem gX8_overBy_X8_overAfter : GoodIn wsX8_overBy (wsV RX8 152 RX8 yX8_overAfter wsX8_overAfter) := goodIn_app (goodIn_of _ (by decide +kernel)) ggX8_overBy_X8_overAfter
theorem dX8_overBy_0 : decode cX8_overBy 0 = .ok (.iload_n 1, 1) := by decide +kernel
theorem dX8_overBy_1 : decode cX8_overBy 1 = .ok (.iconst 1, 1) := by decide +kernel
theorem dX8_overBy_2 : decode cX8_overBy 2 = .ok (.bipush 20, 2) := by decide +kernel
theorem dX8_overBy_4 : decode cX8_overBy 4 = .ok (.invokestatic 90, 3) := by decide +kernel
theorem dX8_overBy_7 : decode cX8_overBy 7 = .ok (.iload_n 2, 1) := by decide +kernel
theorem dX8_overBy_8 : decode cX8_overBy 8 = .ok (.iconst 1, 1) := by decide +kernel
theorem dX8_overBy_9 : decode cX8_overBy 9 = .ok (.bipush 50, 2) := by decide +kernel
theorem dX8_overBy_11 : decode cX8_overBy 11 = .ok (.invokestatic 90, 3) := by decide +kernel
theorem dX8_overBy_14 : decode cX8_overBy 14 = .ok (.aload_n 0, 1) := by decide +kernel
theorem dX8_overBy_15 : decode cX8_overBy 15 = .ok (.iload_n 1, 1) := by decide +kernel
theorem dX8_overBy_16 : decode cX8_overBy 16 = .ok (.iload_n 2, 1) := by decide +kernel
theorem dX8_overBy_17 : decode cX8_overBy 17 = .ok (.invokevirtual 152, 3) := by decide +kernel
theorem dX8_overBy_20 : decode cX8_overBy 20 = .ok (.ireturn, 1) := by decide +kernel
set_option maxRecDepth 20000 in
theorem ggX8_digest_X0_howMany : GoodIn wsX8_digest wsX0_howMany := goodIn_r _ [8, 9, 10, 11, 12, 13, 14, 15, 16, 17, 18, 19, 7, 20, 21, 22, 23, 24, 25, 26, 27, 28, 29, 30, 31, 32, 33, 34, 35, 36, 37, 38, 39, 540, 541, 542, 543, 544, 545, 546, 547, 548, 549, 550, 551, 552, 553, 554, 555, 556, 557, 558, 559, 560, 561, 562, 563, 564, 565, 566, 567, 568, 569, 570, 571, 572, 573, 574, 575, 576, 577, 578, 579, 580, 581, 582, 583, 584, 585, 586, 587, 588, 589] (by decide +kernel) (by decide +kernel)
set_option maxRecDepth 20000 in
theorem gX8_digest_X0_howMany : GoodIn wsX8_digest (wsV RX8 140 RX0 yX0_howMany wsX0_howMany) := goodIn_app (goodIn_of _ (by decide +kernel)) ggX8_digest_X0_howMany
set_option maxRecDepth 20000 in
theorem ggX8_digest_X0_digestTasks : GoodIn wsX8_digest wsX0_digestTasks := goodIn_r _ [43, 11, 12, 44, 45, 46, 47, 7, 48, 49, 22, 50, 51, 52, 53, 54, 55, 56, 57, 58, 59, 60, 61, 62, 63, 64, 65, 66, 67, 68, 69, 70, 71, 72, 73, 74, 75, 76, 77, 78, 79, 80, 81, 82, 83, 84, 85, 86, 87, 88, 89, 90, 91, 92, 93, 540, 541, 547, 548, 549, 550, 551, 552, 553, 554, 555, 556, 557, 558, 559, 560, 561, 562, 563, 564, 565, 566, 567, 568, 569, 570, 571, 572, 573, 574, 575, 576, 577, 578, 579, 580, 581, 582, 583, 584, 585, 586, 587, 588, 589] (by decide +kernel) (by decide +kernel)
set_option maxRecDepth 20000 in
theorem gX8_digest_X0_digestTasks : GoodIn wsX8_digest (wsV RX8 163 RX0 yX0_digestTasks wsX0_digestTasks) := goodIn_app (goodIn_of _ (by decide +kernel)) ggX8_digest_X0_digestTasks
set_option maxRecDepth 20000 in
theorem ggX8_digest_X0_digestScopes : GoodIn wsX8_digest wsX0_digestScopes := goodIn_r _ [97, 11, 13, 44, 98, 99, 100, 7, 101, 102, 38, 39, 103, 104, 105, 106, 107, 108, 109, 110, 111, 58, 112, 80, 113, 114, 115, 116, 21, 22, 74, 75, 76, 77, 78, 79, 81, 82, 83, 84, 540, 541, 547, 548, 549, 550, 551, 552, 553, 554, 555, 556, 557, 558, 576, 577, 578, 579, 580, 581, 582, 583, 584, 585, 586, 587, 588, 589, 559, 560, 561, 562, 563, 564, 565, 566, 567, 568, 569, 570, 571, 572, 573, 574, 575] (by decide +kernel) (by decide +kernel)
set_option maxRecDepth 20000 in
theorem gX8_digest_X0_digestScopes : GoodIn wsX8_digest (wsV RX8 167 RX0 yX0_digestScopes wsX0_digestScopes) := goodIn_app (goodIn_of _ (by decide +kernel)) ggX8_digest_X0_digestScopes
set_option maxRecDepth 20000 in
theorem ggX8_digest_X0_digestLocksAndChannels : GoodIn wsX8_digest wsX0_digestLocksAndChannels := goodIn_r _ [120, 44, 121, 122, 123, 7, 124, 11, 125, 73, 126, 127, 128, 129, 58, 130, 131, 132, 133, 134, 135, 60, 136, 137, 138, 139, 140, 141, 142, 143, 144, 21, 145, 146, 147, 148, 149, 150, 151, 64, 152, 66, 153, 154, 155, 156, 157, 158, 159, 160, 161, 162, 163, 164, 165, 166, 167, 168, 169, 170, 171, 172, 173, 540, 541, 590, 591, 592, 559, 560, 561, 562, 563, 564, 565, 566, 567, 568, 569, 570, 571, 572, 573, 574, 575, 547, 548, 549, 550, 551, 552, 553, 554, 555, 556, 557, 558, 593, 594, 595, 596, 597] (by decide +kernel) (by decide +kernel)
set_option maxRecDepth 20000 in
theorem gX8_digest_X0_digestLocksAndChannels : GoodIn wsX8_digest (wsV RX8 170 RX0 yX0_digestLocksAndChannels wsX0_digestLocksAndChannels) := goodIn_app (goodIn_of _ (by decide +kernel)) ggX8_digest_X0_digestLocksAndChannels
set_option maxRecDepth 20000 in
theorem ggX8_digest_X0_countStuck : GoodIn wsX8_digest wsX0_countStuck := goodIn_r _ [177, 11, 27, 103, 14, 21, 22, 28, 29, 30, 31, 32, 33, 178, 150, 151, 64, 152, 66, 153, 17, 18, 19, 7, 20, 540, 541, 547, 548, 549, 550, 551, 552, 553, 554, 555, 556, 557, 558, 576, 577, 578, 579, 580, 581, 582, 583, 584, 585, 586, 587, 588, 589, 559, 560, 561, 562, 563, 564, 565, 566, 567, 568, 569, 570, 571, 572, 573, 574, 575] (by decide +kernel) (by decide +kernel)
set_option maxRecDepth 20000 in
theorem gX8_digest_X0_countStuck : GoodIn wsX8_digest (wsV RX8 146 RX0 yX0_countStuck wsX0_countStuck) := goodIn_app (goodIn_of _ (by decide +kernel)) ggX8_digest_X0_countStuck
set_option maxRecDepth 20000 in
theorem ggX8_digest_X8_overAfter : GoodIn wsX8_digest wsX8_overAfter := goodIn_r _ [183, 184, 185, 186, 187, 188, 189, 190, 58, 191, 60, 192, 80, 131, 166, 193, 194, 195, 196, 197, 198, 199, 200, 201, 202, 64, 203, 204, 66, 205, 206, 207, 208, 209, 153, 210, 211, 212, 213, 214, 215, 216, 217, 90, 91, 92, 93, 218, 219, 220, 221, 222, 223, 224, 31, 225, 33, 226, 227, 228, 229, 230, 231, 232, 233, 234, 235, 236, 237, 238, 239, 240, 241, 242, 243, 244, 245, 246, 247, 170, 248, 249, 173, 250, 251, 252, 253, 172, 254, 255, 256, 257, 258, 259, 260, 261, 262, 29, 30, 32, 263, 264, 265, 266, 82, 136, 137, 267, 75, 76, 77, 78, 79, 81, 83, 84, 268, 269, 270, 271, 272, 149, 150, 151, 152, 273, 274, 275, 276, 277, 278, 279, 280, 281, 282, 283, 284, 285, 56, 57, 59, 286, 287, 288, 289, 290, 291, 292, 293, 294, 295, 296, 297, 298, 299, 300, 301, 302, 303, 304, 305, 306, 307, 308, 110, 111, 112, 309, 310, 311, 312, 313, 314, 315, 138, 316, 317, 318, 128, 129, 130, 319, 320, 321, 322, 323, 324, 325, 133, 134, 135, 139, 140, 326, 327, 328, 329, 330, 331, 163, 164, 165, 332, 333, 334, 335, 336, 337, 338, 339, 340, 341, 342, 343, 344, 345, 346, 347, 348, 349, 350, 351, 352, 353, 354, 355, 356, 357, 358, 359, 360, 361, 362, 363, 364, 365, 366, 367, 368, 369, 370, 371, 372, 373, 374, 375, 376, 377, 378, 379, 380, 381, 382, 383, 384, 385, 386, 387, 388, 389, 390, 391, 392, 393, 394, 395, 396, 397, 398, 399, 400, 401, 402, 403, 404, 405, 406, 407, 408, 409, 410, 411, 412, 413, 414, 415, 416, 417, 418, 419, 420, 421, 422, 423, 424, 425, 426, 427, 428, 429, 430, 431, 432, 433, 434, 435, 436, 437, 438, 439, 440, 441, 442, 443, 444, 445, 446, 447, 448, 449, 450, 451, 452, 453, 454, 455, 456, 457, 458, 459, 460, 461, 462, 463, 464, 465, 466, 467, 468, 469, 470, 471, 472, 473, 474, 475, 476, 477, 478, 479, 480, 168, 169, 171, 481, 482, 483, 484, 485, 486, 487, 488, 489, 490, 491, 492, 493, 494, 495, 496, 497, 498, 499, 500, 501, 502, 503, 504, 505, 506, 507, 508, 509, 510, 511, 512, 513, 514, 515, 516, 517, 518, 519, 520, 521, 522, 523, 524, 525, 526, 527, 528, 529, 530, 531, 7, 532, 11, 21, 61, 62, 63, 65, 533, 534, 535, 536, 537, 538, 539, 547, 548, 549, 550, 551, 552, 553, 554, 555, 556, 557, 558, 559, 560, 561, 562, 563, 564, 565, 566, 567, 568, 569, 570, 571, 572, 573, 574, 575, 576, 577, 578, 579, 580, 581, 582, 583, 584, 585, 586, 587, 588, 589, 590, 591, 592, 593, 594, 595, 596, 597, 598, 599, 600, 542, 543, 544, 545, 546, 540, 541] (by decide +kernel) (by decide +kernel)
set_option maxRecDepth 20000 in
theorem gX8_digest_X8_overAfter : GoodIn wsX8_digest (wsV RX8 152 RX8 yX8_overAfter wsX8_overAfter) := goodIn_app (goodIn_of _ (by decide +kernel)) ggX8_digest_X8_overAfter
theorem dX8_digest_0 : decode cX8_digest 0 = .ok (.ldc2_w 159, 3) := by decide +kernel
theorem dX8_digest_3 : decode cX8_digest 3 = .ok (.lstore_n 1, 1) := by decide +kernel
theorem dX8_digest_4 : decode cX8_digest 4 = .ok (.iconst 0, 1) := by decide +kernel
theorem dX8_digest_5 : decode cX8_digest 5 = .ok (.istore_n 3, 1) := by decide +kernel
theorem dX8_digest_6 : decode cX8_digest 6 = .ok (.iload_n 3, 1) := by decide +kernel
theorem dX8_digest_7 : decode cX8_digest 7 = .ok (.bipush 12, 2) := by decide +kernel
theorem dX8_digest_9 : decode cX8_digest 9 = .ok (.if_icmp .gt 25, 3) := by decide +kernel
theorem dX8_digest_12 : decode cX8_digest 12 = .ok (.lload_n 1, 1) := by decide +kernel
theorem dX8_digest_13 : decode cX8_digest 13 = .ok (.ldc2_w 161, 3) := by decide +kernel
theorem dX8_digest_16 : decode cX8_digest 16 = .ok (.lmul, 1) := by decide +kernel
theorem dX8_digest_17 : decode cX8_digest 17 = .ok (.aload_n 0, 1) := by decide +kernel
theorem dX8_digest_18 : decode cX8_digest 18 = .ok (.getfield 35, 3) := by decide +kernel
theorem dX8_digest_21 : decode cX8_digest 21 = .ok (.iload_n 3, 1) := by decide +kernel
theorem dX8_digest_22 : decode cX8_digest 22 = .ok (.invokevirtual 140, 3) := by decide +kernel
theorem dX8_digest_25 : decode cX8_digest 25 = .ok (.i2l, 1) := by decide +kernel
theorem dX8_digest_26 : decode cX8_digest 26 = .ok (.ladd, 1) := by decide +kernel
theorem dX8_digest_27 : decode cX8_digest 27 = .ok (.lstore_n 1, 1) := by decide +kernel
theorem dX8_digest_28 : decode cX8_digest 28 = .ok (.iinc 3 1, 3) := by decide +kernel
theorem dX8_digest_31 : decode cX8_digest 31 = .ok (.goto (-25), 3) := by decide +kernel
theorem dX8_digest_34 : decode cX8_digest 34 = .ok (.aload_n 0, 1) := by decide +kernel
theorem dX8_digest_35 : decode cX8_digest 35 = .ok (.getfield 35, 3) := by decide +kernel
theorem dX8_digest_38 : decode cX8_digest 38 = .ok (.lload_n 1, 1) := by decide +kernel
theorem dX8_digest_39 : decode cX8_digest 39 = .ok (.invokevirtual 163, 3) := by decide +kernel
theorem dX8_digest_42 : decode cX8_digest 42 = .ok (.lstore_n 1, 1) := by decide +kernel
theorem dX8_digest_43 : decode cX8_digest 43 = .ok (.aload_n 0, 1) := by decide +kernel
theorem dX8_digest_44 : decode cX8_digest 44 = .ok (.getfield 35, 3) := by decide +kernel
theorem dX8_digest_47 : decode cX8_digest 47 = .ok (.lload_n 1, 1) := by decide +kernel
theorem dX8_digest_48 : decode cX8_digest 48 = .ok (.invokevirtual 167, 3) := by decide +kernel
theorem dX8_digest_51 : decode cX8_digest 51 = .ok (.lstore_n 1, 1) := by decide +kernel
theorem dX8_digest_52 : decode cX8_digest 52 = .ok (.aload_n 0, 1) := by decide +kernel
theorem dX8_digest_53 : decode cX8_digest 53 = .ok (.getfield 35, 3) := by decide +kernel
theorem dX8_digest_56 : decode cX8_digest 56 = .ok (.lload_n 1, 1) := by decide +kernel
theorem dX8_digest_57 : decode cX8_digest 57 = .ok (.invokevirtual 170, 3) := by decide +kernel
theorem dX8_digest_60 : decode cX8_digest 60 = .ok (.lstore_n 1, 1) := by decide +kernel
theorem dX8_digest_61 : decode cX8_digest 61 = .ok (.lload_n 1, 1) := by decide +kernel
theorem dX8_digest_62 : decode cX8_digest 62 = .ok (.ldc2_w 161, 3) := by decide +kernel
theorem dX8_digest_65 : decode cX8_digest 65 = .ok (.lmul, 1) := by decide +kernel
theorem dX8_digest_66 : decode cX8_digest 66 = .ok (.aload_n 0, 1) := by decide +kernel
theorem dX8_digest_67 : decode cX8_digest 67 = .ok (.getfield 35, 3) := by decide +kernel
theorem dX8_digest_70 : decode cX8_digest 70 = .ok (.invokevirtual 146, 3) := by decide +kernel
theorem dX8_digest_73 : decode cX8_digest 73 = .ok (.i2l, 1) := by decide +kernel
theorem dX8_digest_74 : decode cX8_digest 74 = .ok (.ladd, 1) := by decide +kernel
theorem dX8_digest_75 : decode cX8_digest 75 = .ok (.lstore_n 1, 1) := by decide +kernel
theorem dX8_digest_76 : decode cX8_digest 76 = .ok (.lload_n 1, 1) := by decide +kernel
theorem dX8_digest_77 : decode cX8_digest 77 = .ok (.ldc2_w 161, 3) := by decide +kernel
theorem dX8_digest_80 : decode cX8_digest 80 = .ok (.lmul, 1) := by decide +kernel
theorem dX8_digest_81 : decode cX8_digest 81 = .ok (.aload_n 0, 1) := by decide +kernel
theorem dX8_digest_82 : decode cX8_digest 82 = .ok (.iconst 1, 1) := by decide +kernel
theorem dX8_digest_83 : decode cX8_digest 83 = .ok (.bipush 10, 2) := by decide +kernel
theorem dX8_digest_85 : decode cX8_digest 85 = .ok (.invokevirtual 152, 3) := by decide +kernel
theorem dX8_digest_88 : decode cX8_digest 88 = .ok (.i2l, 1) := by decide +kernel
theorem dX8_digest_89 : decode cX8_digest 89 = .ok (.ladd, 1) := by decide +kernel
theorem dX8_digest_90 : decode cX8_digest 90 = .ok (.lstore_n 1, 1) := by decide +kernel
theorem dX8_digest_91 : decode cX8_digest 91 = .ok (.lload_n 1, 1) := by decide +kernel
theorem dX8_digest_92 : decode cX8_digest 92 = .ok (.ldc2_w 161, 3) := by decide +kernel
theorem dX8_digest_95 : decode cX8_digest 95 = .ok (.lmul, 1) := by decide +kernel
theorem dX8_digest_96 : decode cX8_digest 96 = .ok (.aload_n 0, 1) := by decide +kernel
theorem dX8_digest_97 : decode cX8_digest 97 = .ok (.iconst 5, 1) := by decide +kernel
theorem dX8_digest_98 : decode cX8_digest 98 = .ok (.bipush 10, 2) := by decide +kernel
theorem dX8_digest_100 : decode cX8_digest 100 = .ok (.invokevirtual 152, 3) := by decide +kernel
theorem dX8_digest_103 : decode cX8_digest 103 = .ok (.i2l, 1) := by decide +kernel
theorem dX8_digest_104 : decode cX8_digest 104 = .ok (.ladd, 1) := by decide +kernel
theorem dX8_digest_105 : decode cX8_digest 105 = .ok (.lstore_n 1, 1) := by decide +kernel
theorem dX8_digest_106 : decode cX8_digest 106 = .ok (.lload_n 1, 1) := by decide +kernel
theorem dX8_digest_107 : decode cX8_digest 107 = .ok (.lreturn, 1) := by decide +kernel
set_option maxRecDepth 20000 in
theorem ggX8_overAfter_X6_copyFrom : GoodIn wsX8_overAfter wsX6_copyFrom := goodIn_r _ [9, 10, 11, 12, 13, 14, 15, 16, 17, 18, 19, 20, 21, 22, 23, 24, 25, 26, 27, 28, 29, 30, 31, 32, 33, 34, 35, 36, 37, 38, 39, 40, 41, 42, 43, 44, 45, 46, 47, 48, 49, 50, 51, 52, 53, 54, 55, 56, 57, 58, 59, 60, 61, 62, 63, 64, 65, 66, 67, 68, 69, 70, 71, 72, 73, 74, 75, 76, 77, 78, 79, 80, 81, 82, 83, 84, 85, 86, 87, 88, 89, 420, 421, 422, 423, 424, 425, 426, 427, 428, 429, 430, 431, 432, 433, 434, 435, 436, 437, 438, 439, 440, 441, 442, 443, 444, 445, 446, 447, 448, 449, 450, 451, 452, 453, 454, 455, 456, 457, 458, 459, 460, 461, 462, 463, 464, 465, 466, 467, 468, 469, 470] (by decide +kernel) (by decide +kernel)
set_option maxRecDepth 20000 in
theorem gX8_overAfter_X6_copyFrom : GoodIn wsX8_overAfter (wsV RX8 155 RX6 yX6_copyFrom wsX6_copyFrom) := goodIn_app (goodIn_of _ (by decide +kernel)) ggX8_overAfter_X6_copyFrom
set_option maxRecDepth 20000 in
theorem ggX8_overAfter_X6_tickOnce : GoodIn wsX8_overAfter wsX6_tickOnce := goodIn_r _ [93, 17, 18, 12, 94, 10, 95, 96, 97, 98, 54, 99, 56, 100, 101, 102, 8, 103, 104, 105, 106, 107, 108, 109, 110, 111, 112, 113, 114, 115, 116, 117, 118, 119, 11, 120, 121, 122, 123, 25, 124, 28, 34, 420, 421, 422, 423, 424, 425, 426, 427, 428, 429, 430, 431, 449, 450, 451, 452, 453, 454, 455, 456, 457, 458, 459, 460, 461, 462, 432, 433, 434, 435, 436, 437, 438, 439, 440, 441, 442, 443, 444, 445, 446, 447, 448] (by decide +kernel) (by decide +kernel)
set_option maxRecDepth 20000 in
theorem gX8_overAfter_X6_tickOnce : GoodIn wsX8_overAfter (wsV RX8 111 RX6 yX6_tickOnce wsX6_tickOnce) := goodIn_app (goodIn_of _ (by decide +kernel)) ggX8_overAfter_X6_tickOnce
set_option maxRecDepth 20000 in
theorem ggX8_overAfter_X4_takeTurns : GoodIn wsX8_overAfter wsX4_takeTurns := goodIn_r _ [129, 130, 131, 132, 133, 134, 135, 8, 136, 17, 11, 137, 138, 139, 140, 10, 141, 142, 143, 128, 144, 145, 146, 147, 148, 149, 150, 151, 152, 153, 154, 155, 156, 157, 158, 159, 160, 161, 162, 163, 164, 165, 166, 12, 167, 168, 108, 109, 110, 111, 112, 113, 104, 114, 115, 169, 170, 171, 172, 173, 174, 175, 176, 177, 178, 179, 180, 13, 181, 182, 183, 184, 185, 186, 187, 188, 189, 190, 105, 106, 191, 192, 193, 194, 195, 72, 196, 197, 74, 75, 116, 117, 118, 119, 120, 198, 199, 200, 201, 14, 202, 203, 204, 205, 206, 207, 208, 79, 209, 87, 82, 210, 48, 49, 25, 50, 46, 211, 212, 213, 214, 215, 216, 217, 218, 219, 220, 221, 222, 223, 224, 225, 226, 227, 228, 229, 230, 231, 232, 233, 234, 235, 236, 237, 238, 239, 240, 241, 242, 243, 244, 245, 246, 247, 248, 249, 250, 251, 252, 253, 254, 255, 256, 257, 258, 43, 44, 45, 259, 260, 261, 262, 263, 264, 265, 266, 267, 268, 269, 270, 271, 272, 273, 274, 275, 276, 277, 278, 279, 54, 280, 56, 281, 57, 282, 58, 283, 59, 61, 62, 63, 284, 285, 286, 287, 288, 289, 290, 291, 292, 293, 15, 294, 295, 296, 297, 298, 299, 101, 102, 103, 96, 97, 98, 99, 107, 300, 301, 302, 303, 304, 305, 306, 307, 308, 309, 21, 310, 311, 312, 313, 314, 315, 316, 317, 318, 319, 320, 321, 322, 323, 324, 325, 326, 327, 328, 329, 330, 331, 332, 333, 334, 335, 336, 337, 338, 339, 340, 341, 342, 343, 344, 345, 346, 347, 348, 349, 350, 351, 352, 353, 354, 355, 356, 357, 358, 359, 360, 361, 362, 363, 364, 365, 366, 367, 368, 369, 370, 371, 372, 373, 374, 375, 376, 377, 378, 379, 380, 381, 382, 383, 384, 385, 386, 387, 388, 389, 390, 391, 392, 393, 394, 395, 396, 397, 398, 399, 400, 122, 123, 124, 28, 34, 401, 471, 472, 473, 420, 421, 422, 423, 424, 425, 426, 427, 428, 429, 430, 431, 432, 433, 434, 435, 436, 437, 438, 439, 440, 441, 442, 443, 444, 445, 446, 447, 448, 449, 450, 451, 452, 453, 454, 455, 456, 457, 458, 459, 460, 461, 462, 466, 467, 468, 469, 470, 463, 464, 465, 474, 475, 476, 477, 478] (by decide +kernel) (by decide +kernel)
set_option maxRecDepth 20000 in
theorem gX8_overAfter_X4_takeTurns : GoodIn wsX8_overAfter (wsV RX8 108 RX4 yX4_takeTurns wsX4_takeTurns) := goodIn_app (goodIn_of _ (by decide +kernel)) ggX8_overAfter_X4_takeTurns
set_option maxRecDepth 20000 in
theorem ggX8_overAfter_X0_countOver : GoodIn wsX8_overAfter wsX0_countOver := goodIn_r _ [406, 407, 408, 409, 410, 411, 25, 412, 28, 479, 480, 420, 421, 422, 423, 424, 425, 426, 427, 428, 429, 430, 431, 432, 433, 434, 435, 436, 437, 438, 439, 440, 441, 442, 443, 444, 445, 446, 447, 448] (by decide +kernel) (by decide +kernel)
set_option maxRecDepth 20000 in
theorem gX8_overAfter_X0_countOver : GoodIn wsX8_overAfter (wsV RX8 173 RX0 yX0_countOver wsX0_countOver) := goodIn_app (goodIn_of _ (by decide +kernel)) ggX8_overAfter_X0_countOver
theorem dX8_overAfter_0 : decode cX8_overAfter 0 = .ok (.aload_n 0, 1) := by decide +kernel
theorem dX8_overAfter_1 : decode cX8_overAfter 1 = .ok (.getfield 39, 3) := by decide +kernel
theorem dX8_overAfter_4 : decode cX8_overAfter 4 = .ok (.aload_n 0, 1) := by decide +kernel
theorem dX8_overAfter_5 : decode cX8_overAfter 5 = .ok (.getfield 19, 3) := by decide +kernel
theorem dX8_overAfter_8 : decode cX8_overAfter 8 = .ok (.invokevirtual 155, 3) := by decide +kernel
theorem dX8_overAfter_11 : decode cX8_overAfter 11 = .ok (.iconst 0, 1) := by decide +kernel
theorem dX8_overAfter_12 : decode cX8_overAfter 12 = .ok (.istore_n 3, 1) := by decide +kernel
theorem dX8_overAfter_13 : decode cX8_overAfter 13 = .ok (.iload_n 3, 1) := by decide +kernel
theorem dX8_overAfter_14 : decode cX8_overAfter 14 = .ok (.iload_n 1, 1) := by decide +kernel
theorem dX8_overAfter_15 : decode cX8_overAfter 15 = .ok (.if_icmp .ge 26, 3) := by decide +kernel
theorem dX8_overAfter_18 : decode cX8_overAfter 18 = .ok (.aload_n 0, 1) := by decide +kernel
theorem dX8_overAfter_19 : decode cX8_overAfter 19 = .ok (.getfield 39, 3) := by decide +kernel
theorem dX8_overAfter_22 : decode cX8_overAfter 22 = .ok (.invokevirtual 111, 3) := by decide +kernel
theorem dX8_overAfter_25 : decode cX8_overAfter 25 = .ok (.pop, 1) := by decide +kernel
theorem dX8_overAfter_26 : decode cX8_overAfter 26 = .ok (.aload_n 0, 1) := by decide +kernel
theorem dX8_overAfter_27 : decode cX8_overAfter 27 = .ok (.getfield 42, 3) := by decide +kernel
theorem dX8_overAfter_30 : decode cX8_overAfter 30 = .ok (.iload_n 2, 1) := by decide +kernel
theorem dX8_overAfter_31 : decode cX8_overAfter 31 = .ok (.invokevirtual 108, 3) := by decide +kernel
theorem dX8_overAfter_34 : decode cX8_overAfter 34 = .ok (.pop, 1) := by decide +kernel
theorem dX8_overAfter_35 : decode cX8_overAfter 35 = .ok (.iinc 3 1, 3) := by decide +kernel
theorem dX8_overAfter_38 : decode cX8_overAfter 38 = .ok (.goto (-25), 3) := by decide +kernel
theorem dX8_overAfter_41 : decode cX8_overAfter 41 = .ok (.aload_n 0, 1) := by decide +kernel
theorem dX8_overAfter_42 : decode cX8_overAfter 42 = .ok (.getfield 45, 3) := by decide +kernel
theorem dX8_overAfter_45 : decode cX8_overAfter 45 = .ok (.invokevirtual 173, 3) := by decide +kernel
theorem dX8_overAfter_48 : decode cX8_overAfter 48 = .ok (.ireturn, 1) := by decide +kernel
theorem dX8_checkNumber_0 : decode cX8_checkNumber 0 = .ok (.iload_n 0, 1) := by decide +kernel
theorem dX8_checkNumber_1 : decode cX8_checkNumber 1 = .ok (.ifCond .lt 8, 3) := by decide +kernel
theorem dX8_checkNumber_4 : decode cX8_checkNumber 4 = .ok (.iload_n 0, 1) := by decide +kernel
theorem dX8_checkNumber_5 : decode cX8_checkNumber 5 = .ok (.iload_n 1, 1) := by decide +kernel
theorem dX8_checkNumber_6 : decode cX8_checkNumber 6 = .ok (.if_icmp .lt 13, 3) := by decide +kernel
theorem dX8_checkNumber_9 : decode cX8_checkNumber 9 = .ok (.new 176, 3) := by decide +kernel
theorem dX8_checkNumber_12 : decode cX8_checkNumber 12 = .ok (.dup, 1) := by decide +kernel
theorem dX8_checkNumber_13 : decode cX8_checkNumber 13 = .ok (.ldc 178, 2) := by decide +kernel
theorem dX8_checkNumber_15 : decode cX8_checkNumber 15 = .ok (.invokespecial 180, 3) := by decide +kernel
theorem dX8_checkNumber_18 : decode cX8_checkNumber 18 = .ok (.athrow, 1) := by decide +kernel
theorem dX8_checkNumber_19 : decode cX8_checkNumber 19 = .ok (.return_, 1) := by decide +kernel
theorem dX8_checkWithin_0 : decode cX8_checkWithin 0 = .ok (.iload_n 0, 1) := by decide +kernel
theorem dX8_checkWithin_1 : decode cX8_checkWithin 1 = .ok (.iload_n 1, 1) := by decide +kernel
theorem dX8_checkWithin_2 : decode cX8_checkWithin 2 = .ok (.if_icmp .lt 8, 3) := by decide +kernel
theorem dX8_checkWithin_5 : decode cX8_checkWithin 5 = .ok (.iload_n 0, 1) := by decide +kernel
theorem dX8_checkWithin_6 : decode cX8_checkWithin 6 = .ok (.iload_n 2, 1) := by decide +kernel
theorem dX8_checkWithin_7 : decode cX8_checkWithin 7 = .ok (.if_icmp .le 13, 3) := by decide +kernel
theorem dX8_checkWithin_10 : decode cX8_checkWithin 10 = .ok (.new 75, 3) := by decide +kernel
theorem dX8_checkWithin_13 : decode cX8_checkWithin 13 = .ok (.dup, 1) := by decide +kernel
theorem dX8_checkWithin_14 : decode cX8_checkWithin 14 = .ok (.ldc 181, 2) := by decide +kernel
theorem dX8_checkWithin_16 : decode cX8_checkWithin 16 = .ok (.invokespecial 79, 3) := by decide +kernel
theorem dX8_checkWithin_19 : decode cX8_checkWithin 19 = .ok (.athrow, 1) := by decide +kernel
theorem dX8_checkWithin_20 : decode cX8_checkWithin 20 = .ok (.return_, 1) := by decide +kernel
theorem dX9_init_0 : decode cX9_init 0 = .ok (.aload_n 0, 1) := by decide +kernel
theorem dX9_init_1 : decode cX9_init 1 = .ok (.invokespecial 1, 3) := by decide +kernel
theorem dX9_init_4 : decode cX9_init 4 = .ok (.aload_n 0, 1) := by decide +kernel
theorem dX9_init_5 : decode cX9_init 5 = .ok (.bipush 8, 2) := by decide +kernel
theorem dX9_init_7 : decode cX9_init 7 = .ok (.bipush 12, 2) := by decide +kernel
theorem dX9_init_9 : decode cX9_init 9 = .ok (.multianewarray 7 2, 4) := by decide +kernel
theorem dX9_init_13 : decode cX9_init 13 = .ok (.putfield 9, 3) := by decide +kernel
theorem dX9_init_16 : decode cX9_init 16 = .ok (.aload_n 0, 1) := by decide +kernel
theorem dX9_init_17 : decode cX9_init 17 = .ok (.bipush 8, 2) := by decide +kernel
theorem dX9_init_19 : decode cX9_init 19 = .ok (.newarray .int, 2) := by decide +kernel
theorem dX9_init_21 : decode cX9_init 21 = .ok (.putfield 14, 3) := by decide +kernel
theorem dX9_init_24 : decode cX9_init 24 = .ok (.return_, 1) := by decide +kernel
set_option maxRecDepth 20000 in
theorem ggX9_isTold_X8_body : GoodIn wsX9_isTold wsX8_body := goodIn_ca (goodIn_r _ [6, 7, 8, 9, 10, 11, 12, 13, 14, 15, 16, 20, 21, 22, 23, 24, 25, 26, 27, 28, 29, 30, 31] (by decide +kernel) (by decide +kernel)) (goodIn_sub (fun _ h => List.mem_cons_of_mem _ (List.mem_append_right _ h)) (by decide +kernel))
set_option maxRecDepth 20000 in
theorem gX9_isTold_X8_body : GoodIn wsX9_isTold (wsV RX9 22 RX8 yX8_body wsX8_body) := goodIn_app (goodIn_of _ (by decide +kernel)) ggX9_isTold_X8_body
theorem dX9_isTold_0 : decode cX9_isTold 0 = .ok (.aload_n 0, 1) := by decide +kernel
theorem dX9_isTold_1 : decode cX9_isTold 1 = .ok (.dup, 1) := by decide +kernel
theorem dX9_isTold_2 : decode cX9_isTold 2 = .ok (.getfield 18, 3) := by decide +kernel
theorem dX9_isTold_5 : decode cX9_isTold 5 = .ok (.iconst 1, 1) := by decide +kernel
theorem dX9_isTold_6 : decode cX9_isTold 6 = .ok (.iadd, 1) := by decide +kernel
theorem dX9_isTold_7 : decode cX9_isTold 7 = .ok (.putfield 18, 3) := by decide +kernel
theorem dX9_isTold_10 : decode cX9_isTold 10 = .ok (.aload_n 1, 1) := by decide +kernel
theorem dX9_isTold_11 : decode cX9_isTold 11 = .ok (.invokevirtual 22, 3) := by decide +kernel
theorem dX9_isTold_14 : decode cX9_isTold 14 = .ok (.aload_n 0, 1) := by decide +kernel
theorem dX9_isTold_15 : decode cX9_isTold 15 = .ok (.getfield 18, 3) := by decide +kernel
theorem dX9_isTold_18 : decode cX9_isTold 18 = .ok (.iconst 1, 1) := by decide +kernel
theorem dX9_isTold_19 : decode cX9_isTold 19 = .ok (.isub, 1) := by decide +kernel
theorem dX9_isTold_20 : decode cX9_isTold 20 = .ok (.if_icmp .ne 7, 3) := by decide +kernel
theorem dX9_isTold_23 : decode cX9_isTold 23 = .ok (.iconst 1, 1) := by decide +kernel
theorem dX9_isTold_24 : decode cX9_isTold 24 = .ok (.goto 4, 3) := by decide +kernel
theorem dX9_isTold_27 : decode cX9_isTold 27 = .ok (.iconst 0, 1) := by decide +kernel
theorem dX9_isTold_28 : decode cX9_isTold 28 = .ok (.ireturn, 1) := by decide +kernel
set_option maxRecDepth 20000 in
theorem ggX9_isLine_X8_line : GoodIn wsX9_isLine wsX8_line := goodIn_ca (goodIn_ca (goodIn_ca (goodIn_r _ [8, 9, 10, 11, 12, 13, 14, 15, 16, 17, 7, 18, 19, 20, 21, 22, 23, 24, 25, 26, 27, 28, 29, 30, 31, 32, 33, 34, 35, 36, 37, 38, 39, 40, 41, 42, 43, 44, 45, 46, 47, 48, 49, 50, 51, 52, 53, 54, 55, 56, 57, 58, 59, 60, 61, 62, 63, 64, 68, 69, 70, 71, 72, 73, 74, 75, 76, 77, 78, 79, 80, 81, 82, 83, 84, 85, 86, 87, 88, 89, 90, 91, 92, 93, 94, 95, 96, 97, 98, 99, 100, 101, 102, 103, 104, 105, 106, 107, 108] (by decide +kernel) (by decide +kernel)) (goodIn_sub (fun _ h => List.mem_cons_of_mem _ (List.mem_append_left _ (List.mem_append_left _ (List.mem_append_right _ h)))) (by decide +kernel))) (goodIn_sub (fun _ h => List.mem_cons_of_mem _ (List.mem_append_left _ (List.mem_append_right _ h))) (by decide +kernel))) (goodIn_sub (fun _ h => List.mem_cons_of_mem _ (List.mem_append_right _ h)) (by decide +kernel))
set_option maxRecDepth 20000 in
theorem gX9_isLine_X8_line : GoodIn wsX9_isLine (wsV RX9 28 RX8 yX8_line wsX8_line) := goodIn_app (goodIn_of _ (by decide +kernel)) ggX9_isLine_X8_line
theorem dX9_isLine_0 : decode cX9_isLine 0 = .ok (.aload_n 0, 1) := by decide +kernel
theorem dX9_isLine_1 : decode cX9_isLine 1 = .ok (.getfield 14, 3) := by decide +kernel
theorem dX9_isLine_4 : decode cX9_isLine 4 = .ok (.iload_n 2, 1) := by decide +kernel
theorem dX9_isLine_5 : decode cX9_isLine 5 = .ok (.iaload, 1) := by decide +kernel
theorem dX9_isLine_6 : decode cX9_isLine 6 = .ok (.bipush 12, 2) := by decide +kernel
theorem dX9_isLine_8 : decode cX9_isLine 8 = .ok (.if_icmp .ne 5, 3) := by decide +kernel
theorem dX9_isLine_11 : decode cX9_isLine 11 = .ok (.iconst 1, 1) := by decide +kernel
theorem dX9_isLine_12 : decode cX9_isLine 12 = .ok (.ireturn, 1) := by decide +kernel
theorem dX9_isLine_13 : decode cX9_isLine 13 = .ok (.iconst 3, 1) := by decide +kernel
theorem dX9_isLine_14 : decode cX9_isLine 14 = .ok (.newarray .int, 2) := by decide +kernel
theorem dX9_isLine_16 : decode cX9_isLine 16 = .ok (.dup, 1) := by decide +kernel
theorem dX9_isLine_17 : decode cX9_isLine 17 = .ok (.iconst 0, 1) := by decide +kernel
theorem dX9_isLine_18 : decode cX9_isLine 18 = .ok (.iload_n 3, 1) := by decide +kernel
theorem dX9_isLine_19 : decode cX9_isLine 19 = .ok (.iastore, 1) := by decide +kernel
theorem dX9_isLine_20 : decode cX9_isLine 20 = .ok (.dup, 1) := by decide +kernel
theorem dX9_isLine_21 : decode cX9_isLine 21 = .ok (.iconst 1, 1) := by decide +kernel
theorem dX9_isLine_22 : decode cX9_isLine 22 = .ok (.iload 4, 2) := by decide +kernel
theorem dX9_isLine_24 : decode cX9_isLine 24 = .ok (.iastore, 1) := by decide +kernel
theorem dX9_isLine_25 : decode cX9_isLine 25 = .ok (.dup, 1) := by decide +kernel
theorem dX9_isLine_26 : decode cX9_isLine 26 = .ok (.iconst 2, 1) := by decide +kernel
theorem dX9_isLine_27 : decode cX9_isLine 27 = .ok (.iload 5, 2) := by decide +kernel
theorem dX9_isLine_29 : decode cX9_isLine 29 = .ok (.iastore, 1) := by decide +kernel
theorem dX9_isLine_30 : decode cX9_isLine 30 = .ok (.astore 6, 2) := by decide +kernel
theorem dX9_isLine_32 : decode cX9_isLine 32 = .ok (.aload_n 0, 1) := by decide +kernel
theorem dX9_isLine_33 : decode cX9_isLine 33 = .ok (.getfield 9, 3) := by decide +kernel
theorem dX9_isLine_36 : decode cX9_isLine 36 = .ok (.iload_n 2, 1) := by decide +kernel
theorem dX9_isLine_37 : decode cX9_isLine 37 = .ok (.aaload, 1) := by decide +kernel
theorem dX9_isLine_38 : decode cX9_isLine 38 = .ok (.aload_n 0, 1) := by decide +kernel
theorem dX9_isLine_39 : decode cX9_isLine 39 = .ok (.getfield 14, 3) := by decide +kernel
theorem dX9_isLine_42 : decode cX9_isLine 42 = .ok (.iload_n 2, 1) := by decide +kernel
theorem dX9_isLine_43 : decode cX9_isLine 43 = .ok (.iaload, 1) := by decide +kernel
theorem dX9_isLine_44 : decode cX9_isLine 44 = .ok (.aload 6, 2) := by decide +kernel
theorem dX9_isLine_46 : decode cX9_isLine 46 = .ok (.aastore, 1) := by decide +kernel
theorem dX9_isLine_47 : decode cX9_isLine 47 = .ok (.aload_n 0, 1) := by decide +kernel
theorem dX9_isLine_48 : decode cX9_isLine 48 = .ok (.getfield 14, 3) := by decide +kernel
theorem dX9_isLine_51 : decode cX9_isLine 51 = .ok (.iload_n 2, 1) := by decide +kernel
theorem dX9_isLine_52 : decode cX9_isLine 52 = .ok (.dup2, 1) := by decide +kernel
theorem dX9_isLine_53 : decode cX9_isLine 53 = .ok (.iaload, 1) := by decide +kernel
theorem dX9_isLine_54 : decode cX9_isLine 54 = .ok (.iconst 1, 1) := by decide +kernel
theorem dX9_isLine_55 : decode cX9_isLine 55 = .ok (.iadd, 1) := by decide +kernel
theorem dX9_isLine_56 : decode cX9_isLine 56 = .ok (.iastore, 1) := by decide +kernel
theorem dX9_isLine_57 : decode cX9_isLine 57 = .ok (.aload_n 1, 1) := by decide +kernel
theorem dX9_isLine_58 : decode cX9_isLine 58 = .ok (.iload_n 2, 1) := by decide +kernel
theorem dX9_isLine_59 : decode cX9_isLine 59 = .ok (.iload_n 3, 1) := by decide +kernel
theorem dX9_isLine_60 : decode cX9_isLine 60 = .ok (.iload 4, 2) := by decide +kernel
theorem dX9_isLine_62 : decode cX9_isLine 62 = .ok (.iload 5, 2) := by decide +kernel
theorem dX9_isLine_64 : decode cX9_isLine 64 = .ok (.invokevirtual 28, 3) := by decide +kernel
theorem dX9_isLine_67 : decode cX9_isLine 67 = .ok (.aload_n 0, 1) := by decide +kernel
theorem dX9_isLine_68 : decode cX9_isLine 68 = .ok (.getfield 14, 3) := by decide +kernel
theorem dX9_isLine_71 : decode cX9_isLine 71 = .ok (.iload_n 2, 1) := by decide +kernel
theorem dX9_isLine_72 : decode cX9_isLine 72 = .ok (.iaload, 1) := by decide +kernel
theorem dX9_isLine_73 : decode cX9_isLine 73 = .ok (.iconst 1, 1) := by decide +kernel
theorem dX9_isLine_74 : decode cX9_isLine 74 = .ok (.isub, 1) := by decide +kernel
theorem dX9_isLine_75 : decode cX9_isLine 75 = .ok (.if_icmp .ne 7, 3) := by decide +kernel
theorem dX9_isLine_78 : decode cX9_isLine 78 = .ok (.iconst 1, 1) := by decide +kernel
theorem dX9_isLine_79 : decode cX9_isLine 79 = .ok (.goto 4, 3) := by decide +kernel
theorem dX9_isLine_82 : decode cX9_isLine 82 = .ok (.iconst 0, 1) := by decide +kernel
theorem dX9_isLine_83 : decode cX9_isLine 83 = .ok (.ireturn, 1) := by decide +kernel
set_option maxRecDepth 20000 in
theorem ggX9_isDrawn_L_below : GoodIn wsX9_isDrawn wsL_below := goodIn_r _ [11, 12] (by decide +kernel) (by decide +kernel)
set_option maxRecDepth 20000 in
theorem gX9_isDrawn_L_below_n32 : GoodIn wsX9_isDrawn (wsL_below) := ggX9_isDrawn_L_below
set_option maxRecDepth 20000 in
theorem ggX9_isDrawn_X9_isLine : GoodIn wsX9_isDrawn wsX9_isLine := goodIn_ca (goodIn_ca (goodIn_ca (goodIn_r _ [17, 1, 18, 19, 20, 21, 22, 23, 24, 25, 26, 27, 28, 29, 30, 31, 32, 33, 34, 35, 36, 37, 38, 39, 40, 41, 42, 43, 44, 45, 46, 47, 48, 49, 50, 51, 52, 53, 54, 55, 56, 57, 58, 59, 60, 61, 62, 63, 64, 65, 66, 67, 68, 69, 70, 71, 72, 73, 74, 75, 76, 77, 78, 79, 80, 81, 82, 83, 84, 85, 86, 87, 88, 89, 90, 91, 92, 93, 94, 95, 96, 97, 98, 99, 100, 101, 102, 103, 104, 105, 106, 107, 108, 109, 110, 111, 112, 113, 114, 115, 116, 117, 118, 119, 120, 121, 122, 123, 124] (by decide +kernel) (by decide +kernel)) (goodIn_sub (fun _ h => List.mem_cons_of_mem _ (List.mem_append_left _ (List.mem_append_left _ (List.mem_append_right _ h)))) (by decide +kernel))) (goodIn_sub (fun _ h => List.mem_cons_of_mem _ (List.mem_append_left _ (List.mem_append_right _ h))) (by decide +kernel))) (goodIn_sub (fun _ h => List.mem_cons_of_mem _ (List.mem_append_right _ h)) (by decide +kernel))
set_option maxRecDepth 20000 in
theorem gX9_isDrawn_X9_isLine : GoodIn wsX9_isDrawn (wsV RX9 43 RX9 yX9_isLine wsX9_isLine) := goodIn_app (goodIn_of _ (by decide +kernel)) ggX9_isDrawn_X9_isLine
theorem dX9_isDrawn_0 : decode cX9_isDrawn 0 = .ok (.aload 4, 2) := by decide +kernel
theorem dX9_isDrawn_2 : decode cX9_isDrawn 2 = .ok (.iload_n 3, 1) := by decide +kernel
theorem dX9_isDrawn_3 : decode cX9_isDrawn 3 = .ok (.aload 4, 2) := by decide +kernel
theorem dX9_isDrawn_5 : decode cX9_isDrawn 5 = .ok (.arraylength, 1) := by decide +kernel
theorem dX9_isDrawn_6 : decode cX9_isDrawn 6 = .ok (.invokestatic 32, 3) := by decide +kernel
theorem dX9_isDrawn_9 : decode cX9_isDrawn 9 = .ok (.iaload, 1) := by decide +kernel
theorem dX9_isDrawn_10 : decode cX9_isDrawn 10 = .ok (.istore 5, 2) := by decide +kernel
theorem dX9_isDrawn_12 : decode cX9_isDrawn 12 = .ok (.aload_n 0, 1) := by decide +kernel
theorem dX9_isDrawn_13 : decode cX9_isDrawn 13 = .ok (.getfield 14, 3) := by decide +kernel
theorem dX9_isDrawn_16 : decode cX9_isDrawn 16 = .ok (.iload_n 2, 1) := by decide +kernel
theorem dX9_isDrawn_17 : decode cX9_isDrawn 17 = .ok (.iaload, 1) := by decide +kernel
theorem dX9_isDrawn_18 : decode cX9_isDrawn 18 = .ok (.istore 6, 2) := by decide +kernel
theorem dX9_isDrawn_20 : decode cX9_isDrawn 20 = .ok (.iload 6, 2) := by decide +kernel
theorem dX9_isDrawn_22 : decode cX9_isDrawn 22 = .ok (.bipush 12, 2) := by decide +kernel
theorem dX9_isDrawn_24 : decode cX9_isDrawn 24 = .ok (.if_icmp .ne 5, 3) := by decide +kernel
theorem dX9_isDrawn_27 : decode cX9_isDrawn 27 = .ok (.iconst 1, 1) := by decide +kernel
theorem dX9_isDrawn_28 : decode cX9_isDrawn 28 = .ok (.ireturn, 1) := by decide +kernel
theorem dX9_isDrawn_29 : decode cX9_isDrawn 29 = .ok (.bipush 12, 2) := by decide +kernel
theorem dX9_isDrawn_31 : decode cX9_isDrawn 31 = .ok (.iload 6, 2) := by decide +kernel
theorem dX9_isDrawn_33 : decode cX9_isDrawn 33 = .ok (.iconst 1, 1) := by decide +kernel
theorem dX9_isDrawn_34 : decode cX9_isDrawn 34 = .ok (.iadd, 1) := by decide +kernel
theorem dX9_isDrawn_35 : decode cX9_isDrawn 35 = .ok (.iload_n 3, 1) := by decide +kernel
theorem dX9_isDrawn_36 : decode cX9_isDrawn 36 = .ok (.bipush 6, 2) := by decide +kernel
theorem dX9_isDrawn_38 : decode cX9_isDrawn 38 = .ok (.ishr, 1) := by decide +kernel
theorem dX9_isDrawn_39 : decode cX9_isDrawn 39 = .ok (.iconst 5, 1) := by decide +kernel
theorem dX9_isDrawn_40 : decode cX9_isDrawn 40 = .ok (.invokestatic 32, 3) := by decide +kernel
theorem dX9_isDrawn_43 : decode cX9_isDrawn 43 = .ok (.iadd, 1) := by decide +kernel
theorem dX9_isDrawn_44 : decode cX9_isDrawn 44 = .ok (.invokestatic 38, 3) := by decide +kernel
theorem dX9_isDrawn_47 : decode cX9_isDrawn 47 = .ok (.istore 7, 2) := by decide +kernel
theorem dX9_isDrawn_49 : decode cX9_isDrawn 49 = .ok (.iload 5, 2) := by decide +kernel
theorem dX9_isDrawn_51 : decode cX9_isDrawn 51 = .ok (.tableswitch 281 0 17 #[85, 105, 105, 122, 152, 281, 164, 184, 152, 281, 219, 281, 245, 264, 264, 264, 264, 264], 85) := by decide +kernel
theorem dX9_isDrawn_136 : decode cX9_isDrawn 136 = .ok (.aload_n 0, 1) := by decide +kernel
theorem dX9_isDrawn_137 : decode cX9_isDrawn 137 = .ok (.aload_n 1, 1) := by decide +kernel
theorem dX9_isDrawn_138 : decode cX9_isDrawn 138 = .ok (.iload_n 2, 1) := by decide +kernel
theorem dX9_isDrawn_139 : decode cX9_isDrawn 139 = .ok (.iconst 0, 1) := by decide +kernel
theorem dX9_isDrawn_140 : decode cX9_isDrawn 140 = .ok (.iload_n 3, 1) := by decide +kernel
theorem dX9_isDrawn_141 : decode cX9_isDrawn 141 = .ok (.iconst 4, 1) := by decide +kernel
theorem dX9_isDrawn_142 : decode cX9_isDrawn 142 = .ok (.ishr, 1) := by decide +kernel
theorem dX9_isDrawn_143 : decode cX9_isDrawn 143 = .ok (.bipush 21, 2) := by decide +kernel
theorem dX9_isDrawn_145 : decode cX9_isDrawn 145 = .ok (.invokestatic 32, 3) := by decide +kernel
theorem dX9_isDrawn_148 : decode cX9_isDrawn 148 = .ok (.bipush 8, 2) := by decide +kernel
theorem dX9_isDrawn_150 : decode cX9_isDrawn 150 = .ok (.isub, 1) := by decide +kernel
theorem dX9_isDrawn_151 : decode cX9_isDrawn 151 = .ok (.iconst 0, 1) := by decide +kernel
theorem dX9_isDrawn_152 : decode cX9_isDrawn 152 = .ok (.invokevirtual 43, 3) := by decide +kernel
theorem dX9_isDrawn_155 : decode cX9_isDrawn 155 = .ok (.ireturn, 1) := by decide +kernel
theorem dX9_isDrawn_156 : decode cX9_isDrawn 156 = .ok (.aload_n 0, 1) := by decide +kernel
theorem dX9_isDrawn_157 : decode cX9_isDrawn 157 = .ok (.aload_n 1, 1) := by decide +kernel
theorem dX9_isDrawn_158 : decode cX9_isDrawn 158 = .ok (.iload_n 2, 1) := by decide +kernel
theorem dX9_isDrawn_159 : decode cX9_isDrawn 159 = .ok (.iload 5, 2) := by decide +kernel
theorem dX9_isDrawn_161 : decode cX9_isDrawn 161 = .ok (.iload_n 3, 1) := by decide +kernel
theorem dX9_isDrawn_162 : decode cX9_isDrawn 162 = .ok (.iconst 4, 1) := by decide +kernel
theorem dX9_isDrawn_163 : decode cX9_isDrawn 163 = .ok (.ishr, 1) := by decide +kernel
theorem dX9_isDrawn_164 : decode cX9_isDrawn 164 = .ok (.iconst 3, 1) := by decide +kernel
theorem dX9_isDrawn_165 : decode cX9_isDrawn 165 = .ok (.invokestatic 32, 3) := by decide +kernel
theorem dX9_isDrawn_168 : decode cX9_isDrawn 168 = .ok (.iconst 0, 1) := by decide +kernel
theorem dX9_isDrawn_169 : decode cX9_isDrawn 169 = .ok (.invokevirtual 43, 3) := by decide +kernel
theorem dX9_isDrawn_172 : decode cX9_isDrawn 172 = .ok (.ireturn, 1) := by decide +kernel
theorem dX9_isDrawn_173 : decode cX9_isDrawn 173 = .ok (.aload_n 0, 1) := by decide +kernel
theorem dX9_isDrawn_174 : decode cX9_isDrawn 174 = .ok (.aload_n 1, 1) := by decide +kernel
theorem dX9_isDrawn_175 : decode cX9_isDrawn 175 = .ok (.iload_n 2, 1) := by decide +kernel
theorem dX9_isDrawn_176 : decode cX9_isDrawn 176 = .ok (.iconst 3, 1) := by decide +kernel
theorem dX9_isDrawn_177 : decode cX9_isDrawn 177 = .ok (.iload_n 3, 1) := by decide +kernel
theorem dX9_isDrawn_178 : decode cX9_isDrawn 178 = .ok (.iconst 4, 1) := by decide +kernel
theorem dX9_isDrawn_179 : decode cX9_isDrawn 179 = .ok (.ishr, 1) := by decide +kernel
theorem dX9_isDrawn_180 : decode cX9_isDrawn 180 = .ok (.iconst 3, 1) := by decide +kernel
theorem dX9_isDrawn_181 : decode cX9_isDrawn 181 = .ok (.invokestatic 32, 3) := by decide +kernel
theorem dX9_isDrawn_184 : decode cX9_isDrawn 184 = .ok (.iconst 0, 1) := by decide +kernel
theorem dX9_isDrawn_185 : decode cX9_isDrawn 185 = .ok (.iload 6, 2) := by decide +kernel
theorem dX9_isDrawn_187 : decode cX9_isDrawn 187 = .ok (.iload_n 3, 1) := by decide +kernel
theorem dX9_isDrawn_188 : decode cX9_isDrawn 188 = .ok (.bipush 6, 2) := by decide +kernel
theorem dX9_isDrawn_190 : decode cX9_isDrawn 190 = .ok (.ishr, 1) := by decide +kernel
theorem dX9_isDrawn_191 : decode cX9_isDrawn 191 = .ok (.iconst 4, 1) := by decide +kernel
theorem dX9_isDrawn_192 : decode cX9_isDrawn 192 = .ok (.invokestatic 32, 3) := by decide +kernel
theorem dX9_isDrawn_195 : decode cX9_isDrawn 195 = .ok (.isub, 1) := by decide +kernel
theorem dX9_isDrawn_196 : decode cX9_isDrawn 196 = .ok (.invokestatic 47, 3) := by decide +kernel
theorem dX9_isDrawn_199 : decode cX9_isDrawn 199 = .ok (.invokevirtual 43, 3) := by decide +kernel
theorem dX9_isDrawn_202 : decode cX9_isDrawn 202 = .ok (.ireturn, 1) := by decide +kernel
theorem dX9_isDrawn_203 : decode cX9_isDrawn 203 = .ok (.aload_n 0, 1) := by decide +kernel
theorem dX9_isDrawn_204 : decode cX9_isDrawn 204 = .ok (.aload_n 1, 1) := by decide +kernel
theorem dX9_isDrawn_205 : decode cX9_isDrawn 205 = .ok (.iload_n 2, 1) := by decide +kernel
theorem dX9_isDrawn_206 : decode cX9_isDrawn 206 = .ok (.iload 5, 2) := by decide +kernel
theorem dX9_isDrawn_208 : decode cX9_isDrawn 208 = .ok (.iconst 0, 1) := by decide +kernel
theorem dX9_isDrawn_209 : decode cX9_isDrawn 209 = .ok (.iload 7, 2) := by decide +kernel
theorem dX9_isDrawn_211 : decode cX9_isDrawn 211 = .ok (.invokevirtual 43, 3) := by decide +kernel
theorem dX9_isDrawn_214 : decode cX9_isDrawn 214 = .ok (.ireturn, 1) := by decide +kernel
theorem dX9_isDrawn_215 : decode cX9_isDrawn 215 = .ok (.aload_n 0, 1) := by decide +kernel
theorem dX9_isDrawn_216 : decode cX9_isDrawn 216 = .ok (.aload_n 1, 1) := by decide +kernel
theorem dX9_isDrawn_217 : decode cX9_isDrawn 217 = .ok (.iload_n 2, 1) := by decide +kernel
theorem dX9_isDrawn_218 : decode cX9_isDrawn 218 = .ok (.bipush 6, 2) := by decide +kernel
theorem dX9_isDrawn_220 : decode cX9_isDrawn 220 = .ok (.iconst 1, 1) := by decide +kernel
theorem dX9_isDrawn_221 : decode cX9_isDrawn 221 = .ok (.iload_n 3, 1) := by decide +kernel
theorem dX9_isDrawn_222 : decode cX9_isDrawn 222 = .ok (.iconst 4, 1) := by decide +kernel
theorem dX9_isDrawn_223 : decode cX9_isDrawn 223 = .ok (.ishr, 1) := by decide +kernel
theorem dX9_isDrawn_224 : decode cX9_isDrawn 224 = .ok (.bipush 7, 2) := by decide +kernel
theorem dX9_isDrawn_226 : decode cX9_isDrawn 226 = .ok (.invokestatic 32, 3) := by decide +kernel
theorem dX9_isDrawn_229 : decode cX9_isDrawn 229 = .ok (.iadd, 1) := by decide +kernel
theorem dX9_isDrawn_230 : decode cX9_isDrawn 230 = .ok (.iconst 0, 1) := by decide +kernel
theorem dX9_isDrawn_231 : decode cX9_isDrawn 231 = .ok (.invokevirtual 43, 3) := by decide +kernel
theorem dX9_isDrawn_234 : decode cX9_isDrawn 234 = .ok (.ireturn, 1) := by decide +kernel
theorem dX9_isDrawn_235 : decode cX9_isDrawn 235 = .ok (.aload_n 0, 1) := by decide +kernel
theorem dX9_isDrawn_236 : decode cX9_isDrawn 236 = .ok (.aload_n 1, 1) := by decide +kernel
theorem dX9_isDrawn_237 : decode cX9_isDrawn 237 = .ok (.iload_n 2, 1) := by decide +kernel
theorem dX9_isDrawn_238 : decode cX9_isDrawn 238 = .ok (.bipush 7, 2) := by decide +kernel
theorem dX9_isDrawn_240 : decode cX9_isDrawn 240 = .ok (.iload_n 3, 1) := by decide +kernel
theorem dX9_isDrawn_241 : decode cX9_isDrawn 241 = .ok (.iconst 4, 1) := by decide +kernel
theorem dX9_isDrawn_242 : decode cX9_isDrawn 242 = .ok (.ishr, 1) := by decide +kernel
theorem dX9_isDrawn_243 : decode cX9_isDrawn 243 = .ok (.iconst 3, 1) := by decide +kernel
theorem dX9_isDrawn_244 : decode cX9_isDrawn 244 = .ok (.invokestatic 32, 3) := by decide +kernel
theorem dX9_isDrawn_247 : decode cX9_isDrawn 247 = .ok (.ifCond .ne 16, 3) := by decide +kernel
theorem dX9_isDrawn_250 : decode cX9_isDrawn 250 = .ok (.iconst 1, 1) := by decide +kernel
theorem dX9_isDrawn_251 : decode cX9_isDrawn 251 = .ok (.iload_n 3, 1) := by decide +kernel
theorem dX9_isDrawn_252 : decode cX9_isDrawn 252 = .ok (.iconst 5, 1) := by decide +kernel
theorem dX9_isDrawn_253 : decode cX9_isDrawn 253 = .ok (.ishr, 1) := by decide +kernel
theorem dX9_isDrawn_254 : decode cX9_isDrawn 254 = .ok (.bipush 6, 2) := by decide +kernel
theorem dX9_isDrawn_256 : decode cX9_isDrawn 256 = .ok (.invokestatic 32, 3) := by decide +kernel
theorem dX9_isDrawn_259 : decode cX9_isDrawn 259 = .ok (.iadd, 1) := by decide +kernel
theorem dX9_isDrawn_260 : decode cX9_isDrawn 260 = .ok (.goto 4, 3) := by decide +kernel
theorem dX9_isDrawn_263 : decode cX9_isDrawn 263 = .ok (.iconst 0, 1) := by decide +kernel
theorem dX9_isDrawn_264 : decode cX9_isDrawn 264 = .ok (.iload 7, 2) := by decide +kernel
theorem dX9_isDrawn_266 : decode cX9_isDrawn 266 = .ok (.invokevirtual 43, 3) := by decide +kernel
theorem dX9_isDrawn_269 : decode cX9_isDrawn 269 = .ok (.ireturn, 1) := by decide +kernel
theorem dX9_isDrawn_270 : decode cX9_isDrawn 270 = .ok (.aload_n 0, 1) := by decide +kernel
theorem dX9_isDrawn_271 : decode cX9_isDrawn 271 = .ok (.aload_n 1, 1) := by decide +kernel
theorem dX9_isDrawn_272 : decode cX9_isDrawn 272 = .ok (.iload_n 2, 1) := by decide +kernel
theorem dX9_isDrawn_273 : decode cX9_isDrawn 273 = .ok (.bipush 10, 2) := by decide +kernel
theorem dX9_isDrawn_275 : decode cX9_isDrawn 275 = .ok (.iload_n 2, 1) := by decide +kernel
theorem dX9_isDrawn_276 : decode cX9_isDrawn 276 = .ok (.ifCond .ne 8, 3) := by decide +kernel
theorem dX9_isDrawn_279 : decode cX9_isDrawn 279 = .ok (.bipush 7, 2) := by decide +kernel
theorem dX9_isDrawn_281 : decode cX9_isDrawn 281 = .ok (.goto 10, 3) := by decide +kernel
theorem dX9_isDrawn_284 : decode cX9_isDrawn 284 = .ok (.iload_n 3, 1) := by decide +kernel
theorem dX9_isDrawn_285 : decode cX9_isDrawn 285 = .ok (.iconst 4, 1) := by decide +kernel
theorem dX9_isDrawn_286 : decode cX9_isDrawn 286 = .ok (.ishr, 1) := by decide +kernel
theorem dX9_isDrawn_287 : decode cX9_isDrawn 287 = .ok (.iload_n 2, 1) := by decide +kernel
theorem dX9_isDrawn_288 : decode cX9_isDrawn 288 = .ok (.invokestatic 32, 3) := by decide +kernel
theorem dX9_isDrawn_291 : decode cX9_isDrawn 291 = .ok (.iconst 0, 1) := by decide +kernel
theorem dX9_isDrawn_292 : decode cX9_isDrawn 292 = .ok (.invokevirtual 43, 3) := by decide +kernel
theorem dX9_isDrawn_295 : decode cX9_isDrawn 295 = .ok (.ireturn, 1) := by decide +kernel
theorem dX9_isDrawn_296 : decode cX9_isDrawn 296 = .ok (.aload_n 0, 1) := by decide +kernel
theorem dX9_isDrawn_297 : decode cX9_isDrawn 297 = .ok (.aload_n 1, 1) := by decide +kernel
theorem dX9_isDrawn_298 : decode cX9_isDrawn 298 = .ok (.iload_n 2, 1) := by decide +kernel
theorem dX9_isDrawn_299 : decode cX9_isDrawn 299 = .ok (.bipush 12, 2) := by decide +kernel
theorem dX9_isDrawn_301 : decode cX9_isDrawn 301 = .ok (.iconst 1, 1) := by decide +kernel
theorem dX9_isDrawn_302 : decode cX9_isDrawn 302 = .ok (.iload_n 3, 1) := by decide +kernel
theorem dX9_isDrawn_303 : decode cX9_isDrawn 303 = .ok (.iconst 4, 1) := by decide +kernel
theorem dX9_isDrawn_304 : decode cX9_isDrawn 304 = .ok (.ishr, 1) := by decide +kernel
theorem dX9_isDrawn_305 : decode cX9_isDrawn 305 = .ok (.iconst 4, 1) := by decide +kernel
theorem dX9_isDrawn_306 : decode cX9_isDrawn 306 = .ok (.invokestatic 32, 3) := by decide +kernel
theorem dX9_isDrawn_309 : decode cX9_isDrawn 309 = .ok (.iadd, 1) := by decide +kernel
theorem dX9_isDrawn_310 : decode cX9_isDrawn 310 = .ok (.iconst 0, 1) := by decide +kernel
theorem dX9_isDrawn_311 : decode cX9_isDrawn 311 = .ok (.invokevirtual 43, 3) := by decide +kernel
theorem dX9_isDrawn_314 : decode cX9_isDrawn 314 = .ok (.ireturn, 1) := by decide +kernel
theorem dX9_isDrawn_315 : decode cX9_isDrawn 315 = .ok (.aload_n 0, 1) := by decide +kernel
theorem dX9_isDrawn_316 : decode cX9_isDrawn 316 = .ok (.aload_n 1, 1) := by decide +kernel
theorem dX9_isDrawn_317 : decode cX9_isDrawn 317 = .ok (.iload_n 2, 1) := by decide +kernel
theorem dX9_isDrawn_318 : decode cX9_isDrawn 318 = .ok (.iload 5, 2) := by decide +kernel
theorem dX9_isDrawn_320 : decode cX9_isDrawn 320 = .ok (.iload_n 3, 1) := by decide +kernel
theorem dX9_isDrawn_321 : decode cX9_isDrawn 321 = .ok (.iconst 4, 1) := by decide +kernel
theorem dX9_isDrawn_322 : decode cX9_isDrawn 322 = .ok (.ishr, 1) := by decide +kernel
theorem dX9_isDrawn_323 : decode cX9_isDrawn 323 = .ok (.iconst 2, 1) := by decide +kernel
theorem dX9_isDrawn_324 : decode cX9_isDrawn 324 = .ok (.invokestatic 32, 3) := by decide +kernel
theorem dX9_isDrawn_327 : decode cX9_isDrawn 327 = .ok (.iconst 0, 1) := by decide +kernel
theorem dX9_isDrawn_328 : decode cX9_isDrawn 328 = .ok (.invokevirtual 43, 3) := by decide +kernel
theorem dX9_isDrawn_331 : decode cX9_isDrawn 331 = .ok (.ireturn, 1) := by decide +kernel
theorem dX9_isDrawn_332 : decode cX9_isDrawn 332 = .ok (.aload_n 0, 1) := by decide +kernel
theorem dX9_isDrawn_333 : decode cX9_isDrawn 333 = .ok (.aload_n 1, 1) := by decide +kernel
theorem dX9_isDrawn_334 : decode cX9_isDrawn 334 = .ok (.iload_n 2, 1) := by decide +kernel
theorem dX9_isDrawn_335 : decode cX9_isDrawn 335 = .ok (.iload 5, 2) := by decide +kernel
theorem dX9_isDrawn_337 : decode cX9_isDrawn 337 = .ok (.iconst 0, 1) := by decide +kernel
theorem dX9_isDrawn_338 : decode cX9_isDrawn 338 = .ok (.iconst 0, 1) := by decide +kernel
theorem dX9_isDrawn_339 : decode cX9_isDrawn 339 = .ok (.invokevirtual 43, 3) := by decide +kernel
theorem dX9_isDrawn_342 : decode cX9_isDrawn 342 = .ok (.ireturn, 1) := by decide +kernel
theorem dJ9_abs_0f7a4_0 : decode cJ9_abs_0f7a4 0 = .ok (.iload_n 0, 1) := by decide +kernel
theorem dJ9_abs_0f7a4_1 : decode cJ9_abs_0f7a4 1 = .ok (.ifCond .ge 8, 3) := by decide +kernel
theorem dJ9_abs_0f7a4_4 : decode cJ9_abs_0f7a4 4 = .ok (.iload_n 0, 1) := by decide +kernel
theorem dJ9_abs_0f7a4_5 : decode cJ9_abs_0f7a4 5 = .ok (.ineg, 1) := by decide +kernel
theorem dJ9_abs_0f7a4_6 : decode cJ9_abs_0f7a4 6 = .ok (.goto 4, 3) := by decide +kernel
theorem dJ9_abs_0f7a4_9 : decode cJ9_abs_0f7a4 9 = .ok (.iload_n 0, 1) := by decide +kernel
theorem dJ9_abs_0f7a4_10 : decode cJ9_abs_0f7a4 10 = .ok (.ireturn, 1) := by decide +kernel
theorem dJ9_max_7cf53_0 : decode cJ9_max_7cf53 0 = .ok (.iload_n 0, 1) := by decide +kernel
theorem dJ9_max_7cf53_1 : decode cJ9_max_7cf53 1 = .ok (.iload_n 1, 1) := by decide +kernel
theorem dJ9_max_7cf53_2 : decode cJ9_max_7cf53 2 = .ok (.if_icmp .lt 7, 3) := by decide +kernel
theorem dJ9_max_7cf53_5 : decode cJ9_max_7cf53 5 = .ok (.iload_n 0, 1) := by decide +kernel
theorem dJ9_max_7cf53_6 : decode cJ9_max_7cf53 6 = .ok (.goto 4, 3) := by decide +kernel
theorem dJ9_max_7cf53_9 : decode cJ9_max_7cf53 9 = .ok (.iload_n 1, 1) := by decide +kernel
theorem dJ9_max_7cf53_10 : decode cJ9_max_7cf53 10 = .ok (.ireturn, 1) := by decide +kernel
theorem dJ9_min_7cf53_0 : decode cJ9_min_7cf53 0 = .ok (.iload_n 0, 1) := by decide +kernel
theorem dJ9_min_7cf53_1 : decode cJ9_min_7cf53 1 = .ok (.iload_n 1, 1) := by decide +kernel
theorem dJ9_min_7cf53_2 : decode cJ9_min_7cf53 2 = .ok (.if_icmp .gt 7, 3) := by decide +kernel
theorem dJ9_min_7cf53_5 : decode cJ9_min_7cf53 5 = .ok (.iload_n 0, 1) := by decide +kernel
theorem dJ9_min_7cf53_6 : decode cJ9_min_7cf53 6 = .ok (.goto 4, 3) := by decide +kernel
theorem dJ9_min_7cf53_9 : decode cJ9_min_7cf53 9 = .ok (.iload_n 1, 1) := by decide +kernel
theorem dJ9_min_7cf53_10 : decode cJ9_min_7cf53 10 = .ok (.ireturn, 1) := by decide +kernel
theorem dL_below_0 : decode cL_below 0 = .ok (.iload_n 0, 1) := by decide +kernel
theorem dL_below_1 : decode cL_below 1 = .ok (.ldc 7, 2) := by decide +kernel
theorem dL_below_3 : decode cL_below 3 = .ok (.iand, 1) := by decide +kernel
theorem dL_below_4 : decode cL_below 4 = .ok (.iload_n 1, 1) := by decide +kernel
theorem dL_below_5 : decode cL_below 5 = .ok (.irem, 1) := by decide +kernel
theorem dL_below_6 : decode cL_below 6 = .ok (.ireturn, 1) := by decide +kernel
theorem dL_cell_0 : decode cL_cell 0 = .ok (.iload_n 1, 1) := by decide +kernel
theorem dL_cell_1 : decode cL_cell 1 = .ok (.aload_n 0, 1) := by decide +kernel
theorem dL_cell_2 : decode cL_cell 2 = .ok (.arraylength, 1) := by decide +kernel
theorem dL_cell_3 : decode cL_cell 3 = .ok (.if_icmp .ge 9, 3) := by decide +kernel
theorem dL_cell_6 : decode cL_cell 6 = .ok (.aload_n 0, 1) := by decide +kernel
theorem dL_cell_7 : decode cL_cell 7 = .ok (.iload_n 1, 1) := by decide +kernel
theorem dL_cell_8 : decode cL_cell 8 = .ok (.iaload, 1) := by decide +kernel
theorem dL_cell_9 : decode cL_cell 9 = .ok (.goto 9, 3) := by decide +kernel
theorem dL_cell_12 : decode cL_cell 12 = .ok (.ldc 8, 2) := by decide +kernel
theorem dL_cell_14 : decode cL_cell 14 = .ok (.iload_n 1, 1) := by decide +kernel
theorem dL_cell_15 : decode cL_cell 15 = .ok (.iconst 3, 1) := by decide +kernel
theorem dL_cell_16 : decode cL_cell 16 = .ok (.iadd, 1) := by decide +kernel
theorem dL_cell_17 : decode cL_cell 17 = .ok (.imul, 1) := by decide +kernel
theorem dL_cell_18 : decode cL_cell 18 = .ok (.ireturn, 1) := by decide +kernel
set_option maxRecDepth 20000 in
theorem ggL_law_X8_init : GoodIn wsL_law wsX8_init := goodIn_r _ [10, 11, 12, 13, 14, 15, 16, 17, 18, 19, 20, 21, 22, 23, 24, 25, 26, 27, 28, 29, 30, 31, 32, 33, 34, 35, 6, 36, 37, 38, 39, 40, 41, 42, 43, 44, 45, 46, 47, 48, 49, 50, 51, 52, 53, 54, 55, 56, 57, 58, 59, 60, 61, 62, 63, 64, 65, 66, 67, 68, 69, 70, 71, 72, 73, 74, 75, 76, 77, 78, 79, 80, 81, 82, 83, 84, 85, 86, 87, 88, 89, 90, 91, 92, 93, 94, 95, 96, 97, 98, 99, 778, 779, 780, 781, 782, 768, 769, 770, 771, 772, 773, 774, 783, 784, 785, 786, 787, 788, 789, 790, 791, 792, 793, 794, 795, 796, 797, 798, 799, 800, 801, 802, 803, 804, 805, 806, 807, 808, 809, 810, 811, 812, 813, 814, 815, 816, 817, 818, 819, 820, 821, 822, 823, 824, 825, 826, 827, 828, 829, 830, 831, 832, 833, 834, 835, 836, 837, 838] (by decide +kernel) (by decide +kernel)
set_option maxRecDepth 20000 in
theorem gL_law_X8_init : GoodIn wsL_law (wsX8_init) := ggL_law_X8_init
set_option maxRecDepth 20000 in
theorem ggL_law_X9_init : GoodIn wsL_law wsX9_init := goodIn_r _ [101, 102, 12, 13, 103, 6, 104, 775, 776, 777] (by decide +kernel) (by decide +kernel)
set_option maxRecDepth 20000 in
theorem gL_law_X9_init_n14 : GoodIn wsL_law (wsX9_init) := ggL_law_X9_init
set_option maxRecDepth 20000 in
theorem ggL_law_X9_isTold : GoodIn wsL_law wsX9_isTold := goodIn_ca (goodIn_r _ [108, 109, 110, 111, 112, 2, 113, 114, 115, 17, 116, 117, 118, 119, 16, 120, 121, 775, 776, 777, 768, 769, 770, 771, 772, 773, 774, 778, 779, 780, 781, 782] (by decide +kernel) (by decide +kernel)) (goodIn_sub (fun _ h => List.mem_append_left _ (List.mem_append_left _ (List.mem_append_right _ h))) (by decide +kernel))
set_option maxRecDepth 20000 in
theorem gL_law_X9_isTold : GoodIn wsL_law (wsV RL 15 RX9 yX9_isTold wsX9_isTold) := goodIn_app (goodIn_of _ (by decide +kernel)) ggL_law_X9_isTold
set_option maxRecDepth 20000 in
theorem ggL_law_L_cell : GoodIn wsL_law wsL_cell := goodIn_r _ [125, 126] (by decide +kernel) (by decide +kernel)
set_option maxRecDepth 20000 in
theorem gL_law_L_cell : GoodIn wsL_law (va_wsS RL 19 yL_cell wsL_cell) := goodIn_app (goodIn_of _ (by decide +kernel)) ggL_law_L_cell
set_option maxRecDepth 20000 in
theorem ggL_law_L_below : GoodIn wsL_law wsL_below := goodIn_r _ [129, 130] (by decide +kernel) (by decide +kernel)
set_option maxRecDepth 20000 in
theorem gL_law_L_below : GoodIn wsL_law (va_wsS RL 25 yL_below wsL_below) := goodIn_app (goodIn_of _ (by decide +kernel)) ggL_law_L_below
set_option maxRecDepth 20000 in
theorem ggL_law_X9_isLine : GoodIn wsL_law wsX9_isLine := goodIn_ca (goodIn_ca (goodIn_ca (goodIn_r _ [134, 104, 6, 103, 135, 136, 137, 2, 138, 139, 140, 114, 115, 17, 116, 21, 141, 142, 143, 144, 145, 146, 147, 148, 16, 149, 36, 150, 151, 152, 153, 154, 155, 156, 157, 158, 159, 160, 161, 162, 163, 164, 165, 166, 167, 168, 169, 170, 20, 171, 45, 172, 173, 174, 175, 176, 177, 37, 38, 39, 178, 179, 180, 181, 182, 775, 776, 777, 768, 769, 770, 771, 772, 773, 774, 778, 779, 780, 781, 782, 783, 784, 785, 786, 787, 788, 789, 790, 791, 792, 793, 794, 800, 801, 802, 803, 804, 805, 806, 807, 808, 809, 810, 811, 812, 813, 814, 815, 816] (by decide +kernel) (by decide +kernel)) (goodIn_sub (fun _ h => List.mem_append_left _ (List.mem_append_right _ h)) (by decide +kernel))) (goodIn_sub (fun _ h => List.mem_append_left _ (List.mem_append_left _ (List.mem_append_right _ h))) (by decide +kernel))) (goodIn_sub (fun _ h => List.mem_append_right _ h) (by decide +kernel))
set_option maxRecDepth 20000 in
theorem gL_law_X9_isLine : GoodIn wsL_law (wsV RL 29 RX9 yX9_isLine wsX9_isLine) := goodIn_app (goodIn_of _ (by decide +kernel)) ggL_law_X9_isLine
set_option maxRecDepth 20000 in
theorem ggL_law_X9_isDrawn : GoodIn wsL_law wsX9_isDrawn := goodIn_ca (goodIn_ca (goodIn_ca (goodIn_r _ [186, 104, 187, 188, 189, 190, 191, 192, 193, 128, 124, 129, 130, 194, 132, 133, 5, 134, 6, 103, 135, 136, 137, 2, 138, 139, 140, 114, 115, 17, 116, 21, 141, 142, 143, 144, 145, 146, 147, 148, 16, 149, 36, 150, 151, 152, 153, 154, 155, 156, 157, 158, 159, 160, 161, 162, 163, 164, 165, 166, 167, 168, 169, 170, 20, 171, 45, 172, 173, 174, 175, 176, 177, 37, 38, 39, 178, 179, 180, 181, 182, 775, 776, 777, 768, 769, 770, 771, 772, 773, 774, 778, 779, 780, 781, 782, 783, 784, 785, 786, 787, 788, 789, 790, 791, 792, 793, 794, 800, 801, 802, 803, 804, 805, 806, 807, 808, 809, 810, 811, 812, 813, 814, 815, 816] (by decide +kernel) (by decide +kernel)) (goodIn_sub (fun _ h => List.mem_append_left _ (List.mem_append_right _ h)) (by decide +kernel))) (goodIn_sub (fun _ h => List.mem_append_left _ (List.mem_append_left _ (List.mem_append_right _ h))) (by decide +kernel))) (goodIn_sub (fun _ h => List.mem_append_right _ h) (by decide +kernel))
set_option maxRecDepth 20000 in
theorem gL_law_X9_isDrawn : GoodIn wsL_law (wsV RL 33 RX9 yX9_isDrawn wsX9_isDrawn) := goodIn_app (goodIn_of _ (by decide +kernel)) ggL_law_X9_isDrawn
set_option maxRecDepth 20000 in
theorem ggL_law_L_act : GoodIn wsL_law wsL_act := goodIn_ca (goodIn_ca (goodIn_ca (goodIn_r _ [197, 198, 199, 200, 192, 189, 193, 201, 202, 203, 2, 204, 29, 205, 206, 207, 139, 140, 208, 209, 210, 28, 211, 98, 212, 99, 213, 214, 215, 216, 217, 218, 219, 220, 221, 222, 223, 224, 225, 226, 227, 228, 229, 230, 231, 56, 232, 74, 233, 234, 235, 236, 237, 238, 127, 128, 124, 129, 130, 239, 240, 241, 242, 114, 115, 17, 116, 21, 141, 142, 143, 144, 145, 243, 244, 245, 20, 246, 247, 173, 248, 249, 250, 251, 252, 253, 45, 254, 255, 256, 257, 172, 258, 52, 259, 260, 261, 262, 263, 264, 265, 266, 267, 268, 269, 270, 271, 272, 273, 274, 275, 276, 277, 54, 278, 66, 279, 280, 281, 282, 283, 284, 285, 286, 287, 288, 289, 290, 47, 291, 292, 293, 294, 295, 296, 297, 298, 299, 300, 301, 302, 303, 304, 305, 306, 307, 308, 309, 310, 311, 312, 313, 314, 315, 316, 317, 318, 319, 320, 321, 322, 323, 324, 325, 326, 327, 328, 329, 330, 331, 332, 333, 334, 335, 336, 337, 338, 339, 340, 341, 342, 343, 344, 345, 346, 347, 348, 349, 350, 351, 352, 353, 354, 355, 25, 356, 357, 358, 24, 359, 93, 360, 361, 362, 363, 364, 365, 366, 367, 368, 369, 370, 371, 372, 373, 374, 375, 376, 377, 378, 379, 380, 381, 382, 383, 384, 385, 386, 387, 388, 389, 390, 391, 392, 393, 394, 395, 396, 397, 398, 399, 400, 401, 402, 49, 403, 404, 405, 406, 407, 408, 409, 410, 411, 412, 413, 414, 415, 416, 417, 58, 418, 419, 81, 420, 421, 422, 423, 424, 51, 425, 426, 427, 428, 429, 430, 431, 60, 432, 433, 87, 434, 435, 436, 437, 65, 438, 439, 440, 441, 442, 443, 444, 445, 92, 446, 447, 448, 449, 450, 451, 180, 181, 16, 182, 452, 147, 148, 149, 36, 453, 454, 455, 456, 457, 458, 459, 460, 461, 462, 463, 464, 465, 188, 190, 466, 467, 468, 469, 470, 471, 472, 473, 474, 475, 476, 477, 478, 479, 480, 481, 482, 483, 484, 485, 486, 487, 488, 489, 490, 491, 492, 493, 494, 495, 496, 497, 498, 499, 500, 501, 502, 503, 504, 505, 506, 507, 508, 509, 510, 511, 512, 513, 514, 515, 516, 517, 518, 519, 520, 521, 522, 523, 524, 525, 526, 527, 528, 529, 530, 531, 532, 533, 534, 535, 536, 537, 538, 539, 540, 541, 542, 543, 544, 545, 546, 547, 548, 549, 550, 551, 552, 553, 554, 555, 556, 557, 558, 559, 560, 561, 562, 563, 564, 565, 566, 567, 568, 569, 570, 571, 572, 573, 574, 575, 576, 577, 578, 579, 580, 581, 582, 583, 584, 585, 586, 587, 588, 589, 590, 591, 592, 593, 594, 595, 596, 597, 598, 599, 600, 601, 602, 603, 604, 605, 606, 607, 608, 609, 610, 611, 612, 613, 614, 615, 616, 617, 618, 619, 620, 768, 769, 770, 771, 772, 773, 774, 798, 799, 778, 779, 780, 781, 782, 783, 784, 785, 786, 787, 788, 789, 790, 791, 792, 793, 794, 800, 801, 802, 803, 804, 805, 806, 807, 808, 809, 810, 811, 812, 813, 814, 815, 816, 817, 818, 819, 820, 821, 822, 823, 824, 825, 826, 827, 828, 829, 830, 795, 796, 797, 834, 835, 836, 837, 838, 831, 832, 833] (by decide +kernel) (by decide +kernel)) (goodIn_sub (fun _ h => List.mem_append_left _ (List.mem_append_right _ h)) (by decide +kernel))) (goodIn_sub (fun _ h => List.mem_append_left _ (List.mem_append_left _ (List.mem_append_right _ h))) (by decide +kernel))) (goodIn_sub (fun _ h => List.mem_append_right _ h) (by decide +kernel))
set_option maxRecDepth 20000 in
theorem gL_law_L_act : GoodIn wsL_law (va_wsS RL 39 yL_act wsL_act) := goodIn_app (goodIn_of _ (by decide +kernel)) ggL_law_L_act
set_option maxRecDepth 20000 in
theorem ggL_law_X8_many : GoodIn wsL_law wsX8_many := goodIn_ca (goodIn_r _ [204, 29, 205, 206, 2, 207, 139, 140, 208, 209, 210, 28, 211, 98, 212, 99, 213, 214, 215, 216, 217, 218, 219, 220, 221, 222, 223, 224, 225, 226, 227, 228, 229, 230, 231, 56, 232, 74, 233, 234, 235, 236, 237, 238, 768, 769, 770, 771, 772, 773, 774, 798, 799, 778, 779, 780, 781, 782, 783, 784, 785, 786, 787, 788, 789, 790, 791, 792, 793, 794, 800, 801, 802, 803, 804, 805, 806, 807, 808, 809, 810, 811, 812, 813, 814, 815, 816, 817, 818, 819, 820, 821, 822, 823, 824, 825, 826, 827, 828, 829, 830] (by decide +kernel) (by decide +kernel)) (goodIn_sub (fun _ h => List.mem_append_left _ (List.mem_append_right _ h)) (by decide +kernel))
set_option maxRecDepth 20000 in
theorem gL_law_X8_many : GoodIn wsL_law (wsV RL 43 RX8 yX8_many wsX8_many) := goodIn_app (goodIn_of _ (by decide +kernel)) ggL_law_X8_many
set_option maxRecDepth 20000 in
theorem ggL_law_X8_ofTask : GoodIn wsL_law wsX8_ofTask := goodIn_ca (goodIn_ca (goodIn_r _ [262, 21, 263, 29, 141, 142, 2, 143, 144, 145, 205, 206, 207, 139, 140, 264, 265, 266, 28, 267, 99, 268, 223, 269, 270, 271, 272, 273, 274, 251, 252, 20, 253, 45, 275, 276, 277, 54, 278, 66, 279, 280, 281, 282, 283, 284, 285, 286, 287, 288, 289, 290, 248, 47, 291, 292, 293, 294, 768, 769, 770, 771, 772, 773, 774, 783, 784, 785, 786, 787, 788, 789, 790, 791, 792, 793, 794, 798, 799, 800, 801, 802, 803, 804, 805, 806, 807, 808, 809, 810, 811, 812, 813, 814, 815, 816, 817, 818, 819, 820, 821, 822, 823, 824, 825, 826, 827, 828, 829, 830] (by decide +kernel) (by decide +kernel)) (goodIn_sub (fun _ h => List.mem_append_right _ h) (by decide +kernel))) (goodIn_sub (fun _ h => List.mem_append_left _ (List.mem_append_right _ h)) (by decide +kernel))
set_option maxRecDepth 20000 in
theorem gL_law_X8_ofTask : GoodIn wsL_law (wsV RL 47 RX8 yX8_ofTask wsX8_ofTask) := goodIn_app (goodIn_of _ (by decide +kernel)) ggL_law_X8_ofTask
set_option maxRecDepth 20000 in
theorem ggL_law_X8_ofScope : GoodIn wsL_law wsX8_ofScope := goodIn_ca (goodIn_ca (goodIn_r _ [307, 21, 299, 29, 141, 142, 2, 143, 144, 145, 205, 206, 207, 139, 140, 308, 309, 310, 28, 311, 99, 312, 237, 238, 313, 314, 315, 316, 317, 318, 319, 320, 321, 20, 322, 47, 768, 769, 770, 771, 772, 773, 774, 783, 784, 785, 786, 787, 788, 789, 790, 791, 792, 793, 794, 798, 799, 817, 818, 819, 820, 821, 822, 823, 824, 825, 826, 827, 828, 829, 830] (by decide +kernel) (by decide +kernel)) (goodIn_sub (fun _ h => List.mem_append_right _ h) (by decide +kernel))) (goodIn_sub (fun _ h => List.mem_append_left _ (List.mem_append_right _ h)) (by decide +kernel))
set_option maxRecDepth 20000 in
theorem gL_law_X8_ofScope : GoodIn wsL_law (wsV RL 50 RX8 yX8_ofScope wsX8_ofScope) := goodIn_app (goodIn_of _ (by decide +kernel)) ggL_law_X8_ofScope
set_option maxRecDepth 20000 in
theorem ggL_law_L_areTasksRight : GoodIn wsL_law wsL_areTasksRight := goodIn_ca (goodIn_ca (goodIn_r _ [623, 6, 624, 625, 626, 189, 627, 201, 202, 203, 2, 204, 29, 205, 206, 207, 139, 140, 208, 209, 210, 28, 211, 98, 212, 99, 213, 214, 215, 216, 217, 218, 219, 220, 221, 222, 223, 224, 225, 226, 227, 228, 229, 230, 231, 56, 232, 74, 233, 234, 235, 236, 237, 238, 259, 260, 261, 262, 21, 263, 141, 142, 143, 144, 145, 264, 265, 266, 267, 268, 269, 270, 271, 272, 273, 274, 251, 252, 20, 253, 45, 275, 276, 277, 54, 278, 66, 279, 280, 281, 282, 283, 284, 285, 286, 287, 288, 289, 290, 248, 47, 291, 292, 293, 294, 304, 305, 306, 307, 299, 308, 309, 310, 311, 312, 313, 314, 315, 316, 317, 318, 319, 320, 321, 322, 628, 629, 630, 631, 632, 633, 634, 635, 636, 348, 349, 350, 351, 775, 776, 777, 768, 769, 770, 771, 772, 773, 774, 798, 799, 778, 779, 780, 781, 782, 783, 784, 785, 786, 787, 788, 789, 790, 791, 792, 793, 794, 800, 801, 802, 803, 804, 805, 806, 807, 808, 809, 810, 811, 812, 813, 814, 815, 816, 817, 818, 819, 820, 821, 822, 823, 824, 825, 826, 827, 828, 829, 830] (by decide +kernel) (by decide +kernel)) (goodIn_sub (fun _ h => List.mem_append_left _ (List.mem_append_right _ h)) (by decide +kernel))) (goodIn_sub (fun _ h => List.mem_append_right _ h) (by decide +kernel))
set_option maxRecDepth 20000 in
theorem gL_law_L_areTasksRight : GoodIn wsL_law (va_wsS RL 53 yL_areTasksRight wsL_areTasksRight) := goodIn_app (goodIn_of _ (by decide +kernel)) ggL_law_L_areTasksRight
set_option maxRecDepth 20000 in
theorem ggL_law_L_areScopesRight : GoodIn wsL_law wsL_areScopesRight := goodIn_ca (goodIn_ca (goodIn_r _ [639, 6, 201, 202, 203, 2, 204, 29, 205, 206, 207, 139, 140, 208, 209, 210, 28, 211, 98, 212, 99, 213, 214, 215, 216, 217, 218, 219, 220, 221, 222, 223, 224, 225, 226, 227, 228, 229, 230, 231, 56, 232, 74, 233, 234, 235, 236, 237, 238, 259, 260, 261, 262, 21, 263, 141, 142, 143, 144, 145, 264, 265, 266, 267, 268, 269, 270, 271, 272, 273, 274, 251, 252, 20, 253, 45, 275, 276, 277, 54, 278, 66, 279, 280, 281, 282, 283, 284, 285, 286, 287, 288, 289, 290, 248, 47, 291, 292, 293, 294, 304, 305, 306, 307, 299, 308, 309, 310, 311, 312, 313, 314, 315, 316, 317, 318, 319, 320, 321, 322, 768, 769, 770, 771, 772, 773, 774, 798, 799, 778, 779, 780, 781, 782, 783, 784, 785, 786, 787, 788, 789, 790, 791, 792, 793, 794, 800, 801, 802, 803, 804, 805, 806, 807, 808, 809, 810, 811, 812, 813, 814, 815, 816, 817, 818, 819, 820, 821, 822, 823, 824, 825, 826, 827, 828, 829, 830] (by decide +kernel) (by decide +kernel)) (goodIn_sub (fun _ h => List.mem_append_left _ (List.mem_append_right _ h)) (by decide +kernel))) (goodIn_sub (fun _ h => List.mem_append_right _ h) (by decide +kernel))
set_option maxRecDepth 20000 in
theorem gL_law_L_areScopesRight : GoodIn wsL_law (va_wsS RL 57 yL_areScopesRight wsL_areScopesRight) := goodIn_app (goodIn_of _ (by decide +kernel)) ggL_law_L_areScopesRight
set_option maxRecDepth 20000 in
theorem ggL_law_L_areOthersRight : GoodIn wsL_law wsL_areOthersRight := goodIn_ca (goodIn_ca (goodIn_r _ [642, 6, 200, 192, 189, 193, 201, 202, 203, 2, 204, 29, 205, 206, 207, 139, 140, 208, 209, 210, 28, 211, 98, 212, 99, 213, 214, 215, 216, 217, 218, 219, 220, 221, 222, 223, 224, 225, 226, 227, 228, 229, 230, 231, 56, 232, 74, 233, 234, 235, 236, 237, 238, 259, 260, 261, 262, 21, 263, 141, 142, 143, 144, 145, 264, 265, 266, 267, 268, 269, 270, 271, 272, 273, 274, 251, 252, 20, 253, 45, 275, 276, 277, 54, 278, 66, 279, 280, 281, 282, 283, 284, 285, 286, 287, 288, 289, 290, 248, 47, 291, 292, 293, 294, 643, 644, 645, 646, 647, 648, 649, 650, 651, 652, 653, 400, 401, 402, 49, 654, 410, 411, 412, 172, 332, 396, 413, 414, 655, 656, 657, 658, 659, 660, 661, 662, 347, 348, 349, 350, 351, 663, 664, 665, 666, 667, 668, 669, 670, 671, 672, 673, 674, 675, 422, 423, 424, 51, 676, 570, 571, 60, 572, 433, 87, 768, 769, 770, 771, 772, 773, 774, 798, 799, 778, 779, 780, 781, 782, 783, 784, 785, 786, 787, 788, 789, 790, 791, 792, 793, 794, 800, 801, 802, 803, 804, 805, 806, 807, 808, 809, 810, 811, 812, 813, 814, 815, 816, 817, 818, 819, 820, 821, 822, 823, 824, 825, 826, 827, 828, 829, 830, 831, 832, 833, 834, 835, 836, 837, 838] (by decide +kernel) (by decide +kernel)) (goodIn_sub (fun _ h => List.mem_append_left _ (List.mem_append_right _ h)) (by decide +kernel))) (goodIn_sub (fun _ h => List.mem_append_right _ h) (by decide +kernel))
set_option maxRecDepth 20000 in
theorem gL_law_L_areOthersRight : GoodIn wsL_law (va_wsS RL 60 yL_areOthersRight wsL_areOthersRight) := goodIn_app (goodIn_of _ (by decide +kernel)) ggL_law_L_areOthersRight
set_option maxRecDepth 20000 in
theorem ggL_law_X8_digest : GoodIn wsL_law wsX8_digest := goodIn_r _ [680, 681, 682, 29, 208, 209, 210, 28, 211, 98, 212, 99, 213, 214, 215, 216, 217, 218, 219, 220, 221, 222, 223, 224, 225, 226, 227, 228, 229, 230, 231, 56, 232, 74, 233, 234, 235, 236, 237, 238, 683, 684, 685, 686, 687, 688, 265, 266, 267, 268, 269, 270, 271, 272, 273, 274, 251, 252, 20, 253, 45, 275, 276, 277, 54, 278, 66, 279, 280, 281, 282, 283, 284, 285, 286, 287, 288, 289, 290, 248, 47, 291, 292, 293, 294, 689, 690, 691, 692, 693, 472, 473, 474, 65, 694, 695, 696, 697, 698, 309, 310, 311, 312, 313, 314, 315, 316, 317, 318, 319, 320, 321, 322, 699, 301, 302, 303, 700, 701, 702, 703, 704, 648, 649, 650, 651, 652, 653, 400, 401, 402, 49, 654, 410, 411, 412, 172, 332, 396, 413, 414, 655, 656, 657, 658, 659, 660, 661, 662, 347, 348, 349, 350, 351, 705, 668, 669, 670, 671, 672, 673, 674, 675, 422, 423, 424, 51, 676, 570, 571, 60, 572, 433, 87, 632, 633, 634, 635, 636, 706, 707, 708, 2, 709, 30, 21, 31, 32, 710, 711, 712, 713, 52, 247, 714, 258, 343, 715, 716, 528, 717, 718, 719, 720, 721, 722, 723, 67, 68, 724, 725, 726, 727, 728, 729, 730, 731, 732, 733, 435, 436, 437, 734, 735, 736, 737, 498, 500, 502, 738, 503, 504, 505, 739, 740, 741, 742, 75, 743, 744, 745, 58, 746, 81, 420, 747, 748, 749, 750, 86, 751, 752, 753, 754, 755, 756, 339, 340, 341, 342, 344, 345, 333, 346, 329, 330, 331, 334, 254, 255, 256, 257, 249, 356, 357, 358, 24, 359, 93, 360, 361, 362, 363, 364, 365, 250, 366, 367, 368, 369, 370, 371, 372, 373, 374, 375, 376, 377, 378, 379, 380, 381, 382, 383, 384, 385, 386, 387, 388, 389, 390, 391, 392, 393, 394, 395, 397, 398, 399, 403, 404, 405, 406, 407, 408, 409, 415, 416, 417, 418, 419, 421, 425, 426, 427, 428, 429, 430, 431, 432, 434, 438, 439, 440, 441, 442, 443, 444, 445, 92, 446, 447, 448, 449, 450, 451, 180, 181, 16, 182, 452, 147, 148, 149, 36, 453, 454, 455, 456, 457, 458, 459, 460, 461, 462, 463, 464, 465, 188, 189, 190, 466, 192, 193, 467, 468, 469, 470, 471, 475, 476, 477, 478, 479, 480, 481, 482, 483, 484, 485, 486, 487, 488, 489, 490, 491, 492, 493, 494, 495, 496, 497, 499, 501, 506, 507, 508, 509, 510, 511, 512, 244, 245, 246, 173, 513, 514, 515, 516, 517, 518, 519, 520, 521, 522, 523, 524, 525, 526, 527, 529, 530, 531, 532, 533, 534, 535, 536, 537, 538, 539, 540, 541, 542, 543, 544, 545, 546, 547, 548, 549, 550, 551, 552, 553, 554, 555, 556, 557, 558, 559, 560, 561, 562, 563, 564, 565, 566, 567, 568, 569, 573, 574, 575, 576, 577, 578, 579, 580, 581, 582, 583, 584, 585, 586, 587, 588, 589, 590, 591, 592, 593, 594, 595, 596, 597, 598, 599, 600, 601, 602, 603, 604, 605, 606, 607, 608, 609, 610, 611, 612, 613, 614, 615, 616, 617, 618, 619, 620, 757, 758, 759, 760, 768, 769, 770, 771, 772, 773, 774, 798, 799, 778, 779, 780, 781, 782, 783, 784, 785, 786, 787, 788, 789, 790, 791, 792, 793, 794, 800, 801, 802, 803, 804, 805, 806, 807, 808, 809, 810, 811, 812, 813, 814, 815, 816, 817, 818, 819, 820, 821, 822, 823, 824, 825, 826, 827, 828, 829, 830, 831, 832, 833, 834, 835, 836, 837, 838, 795, 796, 797] (by decide +kernel) (by decide +kernel)
set_option maxRecDepth 20000 in
theorem gL_law_X8_digest : GoodIn wsL_law (wsV RL 63 RX8 yX8_digest wsX8_digest) := goodIn_app (goodIn_of _ (by decide +kernel)) ggL_law_X8_digest
set_option maxRecDepth 20000 in
theorem ggL_law_X8_overBy : GoodIn wsL_law wsX8_overBy := goodIn_ca (goodIn_r _ [764, 205, 206, 2, 207, 139, 140, 706, 707, 708, 709, 30, 21, 31, 32, 710, 711, 712, 20, 713, 45, 52, 47, 49, 51, 247, 714, 258, 343, 715, 716, 528, 717, 718, 719, 54, 720, 721, 66, 722, 723, 67, 68, 724, 351, 725, 726, 727, 728, 729, 730, 731, 732, 472, 473, 474, 65, 733, 435, 436, 437, 734, 735, 736, 56, 737, 74, 498, 500, 502, 738, 503, 504, 505, 739, 740, 741, 742, 75, 743, 744, 745, 58, 746, 81, 420, 747, 748, 749, 60, 750, 86, 87, 751, 752, 753, 754, 433, 755, 756, 339, 340, 341, 342, 344, 345, 333, 230, 231, 232, 346, 329, 330, 331, 292, 172, 332, 334, 287, 288, 289, 290, 248, 291, 293, 294, 254, 255, 256, 257, 249, 347, 348, 349, 350, 356, 357, 358, 24, 359, 93, 360, 361, 362, 363, 364, 365, 250, 251, 252, 253, 366, 367, 368, 369, 370, 371, 372, 373, 374, 375, 376, 377, 378, 379, 380, 381, 382, 383, 384, 385, 386, 387, 388, 320, 321, 322, 389, 390, 391, 392, 393, 394, 395, 396, 397, 398, 399, 400, 401, 402, 403, 404, 405, 406, 407, 408, 409, 410, 411, 412, 413, 414, 415, 416, 417, 418, 419, 421, 422, 423, 424, 425, 426, 427, 428, 429, 430, 431, 432, 434, 438, 439, 440, 441, 442, 443, 444, 445, 92, 446, 447, 448, 449, 450, 451, 180, 181, 16, 182, 452, 147, 148, 149, 36, 453, 454, 455, 456, 457, 458, 459, 460, 461, 462, 463, 464, 465, 188, 189, 190, 466, 192, 193, 467, 468, 469, 470, 471, 475, 476, 477, 478, 479, 480, 481, 482, 483, 484, 485, 486, 487, 488, 489, 490, 491, 492, 493, 494, 495, 496, 497, 499, 501, 506, 507, 508, 509, 510, 511, 512, 244, 245, 246, 173, 513, 514, 515, 516, 517, 518, 519, 520, 521, 522, 523, 524, 525, 526, 527, 529, 530, 531, 532, 533, 534, 535, 536, 537, 538, 539, 540, 541, 542, 543, 544, 545, 546, 547, 548, 549, 550, 551, 552, 553, 554, 555, 556, 557, 558, 559, 560, 561, 562, 563, 564, 565, 566, 567, 568, 569, 570, 571, 572, 573, 574, 575, 576, 577, 578, 579, 580, 581, 582, 583, 584, 585, 586, 587, 588, 589, 590, 591, 592, 593, 594, 595, 596, 597, 598, 599, 600, 601, 602, 603, 604, 605, 606, 607, 608, 609, 610, 611, 612, 613, 614, 615, 616, 617, 618, 619, 620, 757, 758, 759, 28, 760, 99, 222, 275, 276, 277, 278, 768, 769, 770, 771, 772, 773, 774, 783, 784, 785, 786, 787, 788, 789, 790, 791, 792, 793, 794, 800, 801, 802, 803, 804, 805, 806, 807, 808, 809, 810, 811, 812, 813, 814, 815, 816, 817, 818, 819, 820, 821, 822, 823, 824, 825, 826, 827, 828, 829, 830, 831, 832, 833, 834, 835, 836, 837, 838, 795, 796, 797, 778, 779, 780, 781, 782, 798, 799] (by decide +kernel) (by decide +kernel)) (goodIn_sub (fun _ h => List.mem_append_left _ (List.mem_append_right _ h)) (by decide +kernel))
set_option maxRecDepth 20000 in
theorem gL_law_X8_overBy : GoodIn wsL_law (wsV RL 67 RX8 yX8_overBy wsX8_overBy) := goodIn_app (goodIn_of _ (by decide +kernel)) ggL_law_X8_overBy
set_option maxRecDepth 20000 in
theorem ggL_law_L_over : GoodIn wsL_law wsL_over := goodIn_ca (goodIn_r _ [767, 201, 202, 203, 2, 204, 29, 205, 206, 207, 139, 140, 208, 209, 210, 28, 211, 98, 212, 99, 213, 214, 215, 216, 217, 218, 219, 220, 221, 222, 223, 224, 225, 226, 227, 228, 229, 230, 231, 56, 232, 74, 233, 234, 235, 236, 237, 238, 768, 769, 770, 771, 772, 773, 774, 798, 799, 778, 779, 780, 781, 782, 783, 784, 785, 786, 787, 788, 789, 790, 791, 792, 793, 794, 800, 801, 802, 803, 804, 805, 806, 807, 808, 809, 810, 811, 812, 813, 814, 815, 816, 817, 818, 819, 820, 821, 822, 823, 824, 825, 826, 827, 828, 829, 830] (by decide +kernel) (by decide +kernel)) (goodIn_sub (fun _ h => List.mem_append_left _ (List.mem_append_right _ h)) (by decide +kernel))
set_option maxRecDepth 20000 in
theorem gL_law_L_over : GoodIn wsL_law (va_wsS RL 70 yL_over wsL_over) := goodIn_app (goodIn_of _ (by decide +kernel)) ggL_law_L_over
theorem dL_law_0 : decode cL_law 0 = .ok (.new 9, 3) := by decide +kernel
theorem dL_law_3 : decode cL_law 3 = .ok (.dup, 1) := by decide +kernel
theorem dL_law_4 : decode cL_law 4 = .ok (.invokespecial 11, 3) := by decide +kernel
theorem dL_law_7 : decode cL_law 7 = .ok (.astore_n 1, 1) := by decide +kernel
theorem dL_law_8 : decode cL_law 8 = .ok (.new 12, 3) := by decide +kernel
theorem dL_law_11 : decode cL_law 11 = .ok (.dup, 1) := by decide +kernel
theorem dL_law_12 : decode cL_law 12 = .ok (.invokespecial 14, 3) := by decide +kernel
theorem dL_law_15 : decode cL_law 15 = .ok (.astore_n 2, 1) := by decide +kernel
theorem dL_law_16 : decode cL_law 16 = .ok (.bipush 26, 2) := by decide +kernel
theorem dL_law_18 : decode cL_law 18 = .ok (.newarray .int, 2) := by decide +kernel
theorem dL_law_20 : decode cL_law 20 = .ok (.dup, 1) := by decide +kernel
theorem dL_law_21 : decode cL_law 21 = .ok (.iconst 0, 1) := by decide +kernel
theorem dL_law_22 : decode cL_law 22 = .ok (.iconst 0, 1) := by decide +kernel
theorem dL_law_23 : decode cL_law 23 = .ok (.iastore, 1) := by decide +kernel
theorem dL_law_24 : decode cL_law 24 = .ok (.dup, 1) := by decide +kernel
theorem dL_law_25 : decode cL_law 25 = .ok (.iconst 1, 1) := by decide +kernel
theorem dL_law_26 : decode cL_law 26 = .ok (.iconst 1, 1) := by decide +kernel
theorem dL_law_27 : decode cL_law 27 = .ok (.iastore, 1) := by decide +kernel
theorem dL_law_28 : decode cL_law 28 = .ok (.dup, 1) := by decide +kernel
theorem dL_law_29 : decode cL_law 29 = .ok (.iconst 2, 1) := by decide +kernel
theorem dL_law_30 : decode cL_law 30 = .ok (.iconst 2, 1) := by decide +kernel
theorem dL_law_31 : decode cL_law 31 = .ok (.iastore, 1) := by decide +kernel
theorem dL_law_32 : decode cL_law 32 = .ok (.dup, 1) := by decide +kernel
theorem dL_law_33 : decode cL_law 33 = .ok (.iconst 3, 1) := by decide +kernel
theorem dL_law_34 : decode cL_law 34 = .ok (.iconst 3, 1) := by decide +kernel
theorem dL_law_35 : decode cL_law 35 = .ok (.iastore, 1) := by decide +kernel
theorem dL_law_36 : decode cL_law 36 = .ok (.dup, 1) := by decide +kernel
theorem dL_law_37 : decode cL_law 37 = .ok (.iconst 4, 1) := by decide +kernel
theorem dL_law_38 : decode cL_law 38 = .ok (.iconst 4, 1) := by decide +kernel
theorem dL_law_39 : decode cL_law 39 = .ok (.iastore, 1) := by decide +kernel
theorem dL_law_40 : decode cL_law 40 = .ok (.dup, 1) := by decide +kernel
theorem dL_law_41 : decode cL_law 41 = .ok (.iconst 5, 1) := by decide +kernel
theorem dL_law_42 : decode cL_law 42 = .ok (.iconst 5, 1) := by decide +kernel
theorem dL_law_43 : decode cL_law 43 = .ok (.iastore, 1) := by decide +kernel
theorem dL_law_44 : decode cL_law 44 = .ok (.dup, 1) := by decide +kernel
theorem dL_law_45 : decode cL_law 45 = .ok (.bipush 6, 2) := by decide +kernel
theorem dL_law_47 : decode cL_law 47 = .ok (.bipush 6, 2) := by decide +kernel
theorem dL_law_49 : decode cL_law 49 = .ok (.iastore, 1) := by decide +kernel
theorem dL_law_50 : decode cL_law 50 = .ok (.dup, 1) := by decide +kernel
theorem dL_law_51 : decode cL_law 51 = .ok (.bipush 7, 2) := by decide +kernel
theorem dL_law_53 : decode cL_law 53 = .ok (.bipush 7, 2) := by decide +kernel
theorem dL_law_55 : decode cL_law 55 = .ok (.iastore, 1) := by decide +kernel
theorem dL_law_56 : decode cL_law 56 = .ok (.dup, 1) := by decide +kernel
theorem dL_law_57 : decode cL_law 57 = .ok (.bipush 8, 2) := by decide +kernel
theorem dL_law_59 : decode cL_law 59 = .ok (.bipush 7, 2) := by decide +kernel
theorem dL_law_61 : decode cL_law 61 = .ok (.iastore, 1) := by decide +kernel
theorem dL_law_62 : decode cL_law 62 = .ok (.dup, 1) := by decide +kernel
theorem dL_law_63 : decode cL_law 63 = .ok (.bipush 9, 2) := by decide +kernel
theorem dL_law_65 : decode cL_law 65 = .ok (.bipush 8, 2) := by decide +kernel
theorem dL_law_67 : decode cL_law 67 = .ok (.iastore, 1) := by decide +kernel
theorem dL_law_68 : decode cL_law 68 = .ok (.dup, 1) := by decide +kernel
theorem dL_law_69 : decode cL_law 69 = .ok (.bipush 10, 2) := by decide +kernel
theorem dL_law_71 : decode cL_law 71 = .ok (.bipush 9, 2) := by decide +kernel
theorem dL_law_73 : decode cL_law 73 = .ok (.iastore, 1) := by decide +kernel
theorem dL_law_74 : decode cL_law 74 = .ok (.dup, 1) := by decide +kernel
theorem dL_law_75 : decode cL_law 75 = .ok (.bipush 11, 2) := by decide +kernel
theorem dL_law_77 : decode cL_law 77 = .ok (.bipush 9, 2) := by decide +kernel
theorem dL_law_79 : decode cL_law 79 = .ok (.iastore, 1) := by decide +kernel
theorem dL_law_80 : decode cL_law 80 = .ok (.dup, 1) := by decide +kernel
theorem dL_law_81 : decode cL_law 81 = .ok (.bipush 12, 2) := by decide +kernel
theorem dL_law_83 : decode cL_law 83 = .ok (.bipush 10, 2) := by decide +kernel
theorem dL_law_85 : decode cL_law 85 = .ok (.iastore, 1) := by decide +kernel
theorem dL_law_86 : decode cL_law 86 = .ok (.dup, 1) := by decide +kernel
theorem dL_law_87 : decode cL_law 87 = .ok (.bipush 13, 2) := by decide +kernel
theorem dL_law_89 : decode cL_law 89 = .ok (.bipush 10, 2) := by decide +kernel
theorem dL_law_91 : decode cL_law 91 = .ok (.iastore, 1) := by decide +kernel
theorem dL_law_92 : decode cL_law 92 = .ok (.dup, 1) := by decide +kernel
theorem dL_law_93 : decode cL_law 93 = .ok (.bipush 14, 2) := by decide +kernel
theorem dL_law_95 : decode cL_law 95 = .ok (.bipush 10, 2) := by decide +kernel
theorem dL_law_97 : decode cL_law 97 = .ok (.iastore, 1) := by decide +kernel
theorem dL_law_98 : decode cL_law 98 = .ok (.dup, 1) := by decide +kernel
theorem dL_law_99 : decode cL_law 99 = .ok (.bipush 15, 2) := by decide +kernel
theorem dL_law_101 : decode cL_law 101 = .ok (.bipush 11, 2) := by decide +kernel
theorem dL_law_103 : decode cL_law 103 = .ok (.iastore, 1) := by decide +kernel
theorem dL_law_104 : decode cL_law 104 = .ok (.dup, 1) := by decide +kernel
theorem dL_law_105 : decode cL_law 105 = .ok (.bipush 16, 2) := by decide +kernel
theorem dL_law_107 : decode cL_law 107 = .ok (.bipush 12, 2) := by decide +kernel
theorem dL_law_109 : decode cL_law 109 = .ok (.iastore, 1) := by decide +kernel
theorem dL_law_110 : decode cL_law 110 = .ok (.dup, 1) := by decide +kernel
theorem dL_law_111 : decode cL_law 111 = .ok (.bipush 17, 2) := by decide +kernel
theorem dL_law_113 : decode cL_law 113 = .ok (.bipush 12, 2) := by decide +kernel
theorem dL_law_115 : decode cL_law 115 = .ok (.iastore, 1) := by decide +kernel
theorem dL_law_116 : decode cL_law 116 = .ok (.dup, 1) := by decide +kernel
theorem dL_law_117 : decode cL_law 117 = .ok (.bipush 18, 2) := by decide +kernel
theorem dL_law_119 : decode cL_law 119 = .ok (.bipush 13, 2) := by decide +kernel
theorem dL_law_121 : decode cL_law 121 = .ok (.iastore, 1) := by decide +kernel
theorem dL_law_122 : decode cL_law 122 = .ok (.dup, 1) := by decide +kernel
theorem dL_law_123 : decode cL_law 123 = .ok (.bipush 19, 2) := by decide +kernel
theorem dL_law_125 : decode cL_law 125 = .ok (.bipush 14, 2) := by decide +kernel
theorem dL_law_127 : decode cL_law 127 = .ok (.iastore, 1) := by decide +kernel
theorem dL_law_128 : decode cL_law 128 = .ok (.dup, 1) := by decide +kernel
theorem dL_law_129 : decode cL_law 129 = .ok (.bipush 20, 2) := by decide +kernel
theorem dL_law_131 : decode cL_law 131 = .ok (.bipush 15, 2) := by decide +kernel
theorem dL_law_133 : decode cL_law 133 = .ok (.iastore, 1) := by decide +kernel
theorem dL_law_134 : decode cL_law 134 = .ok (.dup, 1) := by decide +kernel
theorem dL_law_135 : decode cL_law 135 = .ok (.bipush 21, 2) := by decide +kernel
theorem dL_law_137 : decode cL_law 137 = .ok (.bipush 15, 2) := by decide +kernel
theorem dL_law_139 : decode cL_law 139 = .ok (.iastore, 1) := by decide +kernel
theorem dL_law_140 : decode cL_law 140 = .ok (.dup, 1) := by decide +kernel
theorem dL_law_141 : decode cL_law 141 = .ok (.bipush 22, 2) := by decide +kernel
theorem dL_law_143 : decode cL_law 143 = .ok (.bipush 16, 2) := by decide +kernel
theorem dL_law_145 : decode cL_law 145 = .ok (.iastore, 1) := by decide +kernel
theorem dL_law_146 : decode cL_law 146 = .ok (.dup, 1) := by decide +kernel
theorem dL_law_147 : decode cL_law 147 = .ok (.bipush 23, 2) := by decide +kernel
theorem dL_law_149 : decode cL_law 149 = .ok (.bipush 17, 2) := by decide +kernel
theorem dL_law_151 : decode cL_law 151 = .ok (.iastore, 1) := by decide +kernel
theorem dL_law_152 : decode cL_law 152 = .ok (.dup, 1) := by decide +kernel
theorem dL_law_153 : decode cL_law 153 = .ok (.bipush 24, 2) := by decide +kernel
theorem dL_law_155 : decode cL_law 155 = .ok (.bipush 18, 2) := by decide +kernel
theorem dL_law_157 : decode cL_law 157 = .ok (.iastore, 1) := by decide +kernel
theorem dL_law_158 : decode cL_law 158 = .ok (.dup, 1) := by decide +kernel
theorem dL_law_159 : decode cL_law 159 = .ok (.bipush 25, 2) := by decide +kernel
theorem dL_law_161 : decode cL_law 161 = .ok (.bipush 12, 2) := by decide +kernel
theorem dL_law_163 : decode cL_law 163 = .ok (.iastore, 1) := by decide +kernel
theorem dL_law_164 : decode cL_law 164 = .ok (.astore_n 3, 1) := by decide +kernel
theorem dL_law_165 : decode cL_law 165 = .ok (.iconst 0, 1) := by decide +kernel
theorem dL_law_166 : decode cL_law 166 = .ok (.istore 4, 2) := by decide +kernel
theorem dL_law_168 : decode cL_law 168 = .ok (.iload 4, 2) := by decide +kernel
theorem dL_law_170 : decode cL_law 170 = .ok (.iconst 5, 1) := by decide +kernel
theorem dL_law_171 : decode cL_law 171 = .ok (.if_icmp .ge 147, 3) := by decide +kernel
theorem dL_law_174 : decode cL_law 174 = .ok (.aload_n 2, 1) := by decide +kernel
theorem dL_law_175 : decode cL_law 175 = .ok (.aload_n 1, 1) := by decide +kernel
theorem dL_law_176 : decode cL_law 176 = .ok (.invokevirtual 15, 3) := by decide +kernel
theorem dL_law_179 : decode cL_law 179 = .ok (.ifCond .ne 5, 3) := by decide +kernel
theorem dL_law_182 : decode cL_law 182 = .ok (.iconst 0, 1) := by decide +kernel
theorem dL_law_183 : decode cL_law 183 = .ok (.ireturn, 1) := by decide +kernel
theorem dL_law_184 : decode cL_law 184 = .ok (.iload 4, 2) := by decide +kernel
theorem dL_law_186 : decode cL_law 186 = .ok (.iconst 1, 1) := by decide +kernel
theorem dL_law_187 : decode cL_law 187 = .ok (.if_icmp .le 59, 3) := by decide +kernel
theorem dL_law_190 : decode cL_law 190 = .ok (.aload_n 2, 1) := by decide +kernel
theorem dL_law_191 : decode cL_law 191 = .ok (.aload_n 1, 1) := by decide +kernel
theorem dL_law_192 : decode cL_law 192 = .ok (.iload 4, 2) := by decide +kernel
theorem dL_law_194 : decode cL_law 194 = .ok (.bipush 7, 2) := by decide +kernel
theorem dL_law_196 : decode cL_law 196 = .ok (.aload_n 0, 1) := by decide +kernel
theorem dL_law_197 : decode cL_law 197 = .ok (.iload 4, 2) := by decide +kernel
theorem dL_law_199 : decode cL_law 199 = .ok (.invokestatic 19, 3) := by decide +kernel
theorem dL_law_202 : decode cL_law 202 = .ok (.bipush 9, 2) := by decide +kernel
theorem dL_law_204 : decode cL_law 204 = .ok (.ishr, 1) := by decide +kernel
theorem dL_law_205 : decode cL_law 205 = .ok (.bipush 9, 2) := by decide +kernel
theorem dL_law_207 : decode cL_law 207 = .ok (.invokestatic 25, 3) := by decide +kernel
theorem dL_law_210 : decode cL_law 210 = .ok (.bipush 9, 2) := by decide +kernel
theorem dL_law_212 : decode cL_law 212 = .ok (.invokevirtual 29, 3) := by decide +kernel
theorem dL_law_215 : decode cL_law 215 = .ok (.ifCond .eq 29, 3) := by decide +kernel
theorem dL_law_218 : decode cL_law 218 = .ok (.aload_n 2, 1) := by decide +kernel
theorem dL_law_219 : decode cL_law 219 = .ok (.aload_n 1, 1) := by decide +kernel
theorem dL_law_220 : decode cL_law 220 = .ok (.iload 4, 2) := by decide +kernel
theorem dL_law_222 : decode cL_law 222 = .ok (.bipush 10, 2) := by decide +kernel
theorem dL_law_224 : decode cL_law 224 = .ok (.aload_n 0, 1) := by decide +kernel
theorem dL_law_225 : decode cL_law 225 = .ok (.iload 4, 2) := by decide +kernel
theorem dL_law_227 : decode cL_law 227 = .ok (.invokestatic 19, 3) := by decide +kernel
theorem dL_law_230 : decode cL_law 230 = .ok (.iconst 2, 1) := by decide +kernel
theorem dL_law_231 : decode cL_law 231 = .ok (.ishr, 1) := by decide +kernel
theorem dL_law_232 : decode cL_law 232 = .ok (.iload 4, 2) := by decide +kernel
theorem dL_law_234 : decode cL_law 234 = .ok (.invokestatic 25, 3) := by decide +kernel
theorem dL_law_237 : decode cL_law 237 = .ok (.iconst 0, 1) := by decide +kernel
theorem dL_law_238 : decode cL_law 238 = .ok (.invokevirtual 29, 3) := by decide +kernel
theorem dL_law_241 : decode cL_law 241 = .ok (.ifCond .ne 5, 3) := by decide +kernel
theorem dL_law_244 : decode cL_law 244 = .ok (.iconst 0, 1) := by decide +kernel
theorem dL_law_245 : decode cL_law 245 = .ok (.ireturn, 1) := by decide +kernel
theorem dL_law_246 : decode cL_law 246 = .ok (.iconst 0, 1) := by decide +kernel
theorem dL_law_247 : decode cL_law 247 = .ok (.istore 5, 2) := by decide +kernel
theorem dL_law_249 : decode cL_law 249 = .ok (.iload 5, 2) := by decide +kernel
theorem dL_law_251 : decode cL_law 251 = .ok (.iconst 3, 1) := by decide +kernel
theorem dL_law_252 : decode cL_law 252 = .ok (.aload_n 0, 1) := by decide +kernel
theorem dL_law_253 : decode cL_law 253 = .ok (.iload 4, 2) := by decide +kernel
theorem dL_law_255 : decode cL_law 255 = .ok (.invokestatic 19, 3) := by decide +kernel
theorem dL_law_258 : decode cL_law 258 = .ok (.bipush 7, 2) := by decide +kernel
theorem dL_law_260 : decode cL_law 260 = .ok (.invokestatic 25, 3) := by decide +kernel
theorem dL_law_263 : decode cL_law 263 = .ok (.iadd, 1) := by decide +kernel
theorem dL_law_264 : decode cL_law 264 = .ok (.if_icmp .ge 48, 3) := by decide +kernel
theorem dL_law_267 : decode cL_law 267 = .ok (.aload_n 2, 1) := by decide +kernel
theorem dL_law_268 : decode cL_law 268 = .ok (.aload_n 1, 1) := by decide +kernel
theorem dL_law_269 : decode cL_law 269 = .ok (.iload 4, 2) := by decide +kernel
theorem dL_law_271 : decode cL_law 271 = .ok (.aload_n 0, 1) := by decide +kernel
theorem dL_law_272 : decode cL_law 272 = .ok (.iconst 5, 1) := by decide +kernel
theorem dL_law_273 : decode cL_law 273 = .ok (.iload 4, 2) := by decide +kernel
theorem dL_law_275 : decode cL_law 275 = .ok (.bipush 7, 2) := by decide +kernel
theorem dL_law_277 : decode cL_law 277 = .ok (.imul, 1) := by decide +kernel
theorem dL_law_278 : decode cL_law 278 = .ok (.iload 5, 2) := by decide +kernel
theorem dL_law_280 : decode cL_law 280 = .ok (.iadd, 1) := by decide +kernel
theorem dL_law_281 : decode cL_law 281 = .ok (.bipush 21, 2) := by decide +kernel
theorem dL_law_283 : decode cL_law 283 = .ok (.irem, 1) := by decide +kernel
theorem dL_law_284 : decode cL_law 284 = .ok (.iadd, 1) := by decide +kernel
theorem dL_law_285 : decode cL_law 285 = .ok (.invokestatic 19, 3) := by decide +kernel
theorem dL_law_288 : decode cL_law 288 = .ok (.iload 4, 2) := by decide +kernel
theorem dL_law_290 : decode cL_law 290 = .ok (.iload 5, 2) := by decide +kernel
theorem dL_law_292 : decode cL_law 292 = .ok (.iadd, 1) := by decide +kernel
theorem dL_law_293 : decode cL_law 293 = .ok (.bipush 6, 2) := by decide +kernel
theorem dL_law_295 : decode cL_law 295 = .ok (.irem, 1) := by decide +kernel
theorem dL_law_296 : decode cL_law 296 = .ok (.ishr, 1) := by decide +kernel
theorem dL_law_297 : decode cL_law 297 = .ok (.aload_n 3, 1) := by decide +kernel
theorem dL_law_298 : decode cL_law 298 = .ok (.invokevirtual 33, 3) := by decide +kernel
theorem dL_law_301 : decode cL_law 301 = .ok (.ifCond .ne 5, 3) := by decide +kernel
theorem dL_law_304 : decode cL_law 304 = .ok (.iconst 0, 1) := by decide +kernel
theorem dL_law_305 : decode cL_law 305 = .ok (.ireturn, 1) := by decide +kernel
theorem dL_law_306 : decode cL_law 306 = .ok (.iinc 5 1, 3) := by decide +kernel
theorem dL_law_309 : decode cL_law 309 = .ok (.goto (-60), 3) := by decide +kernel
theorem dL_law_312 : decode cL_law 312 = .ok (.iinc 4 1, 3) := by decide +kernel
theorem dL_law_315 : decode cL_law 315 = .ok (.goto (-147), 3) := by decide +kernel
theorem dL_law_318 : decode cL_law 318 = .ok (.bipush 24, 2) := by decide +kernel
theorem dL_law_320 : decode cL_law 320 = .ok (.iconst 2, 1) := by decide +kernel
theorem dL_law_321 : decode cL_law 321 = .ok (.multianewarray 37 2, 4) := by decide +kernel
theorem dL_law_325 : decode cL_law 325 = .ok (.astore 4, 2) := by decide +kernel
theorem dL_law_327 : decode cL_law 327 = .ok (.bipush 40, 2) := by decide +kernel
theorem dL_law_329 : decode cL_law 329 = .ok (.iconst 2, 1) := by decide +kernel
theorem dL_law_330 : decode cL_law 330 = .ok (.multianewarray 37 2, 4) := by decide +kernel
theorem dL_law_334 : decode cL_law 334 = .ok (.astore 5, 2) := by decide +kernel
theorem dL_law_336 : decode cL_law 336 = .ok (.iconst 0, 1) := by decide +kernel
theorem dL_law_337 : decode cL_law 337 = .ok (.istore 6, 2) := by decide +kernel
theorem dL_law_339 : decode cL_law 339 = .ok (.iload 6, 2) := by decide +kernel
theorem dL_law_341 : decode cL_law 341 = .ok (.bipush 54, 2) := by decide +kernel
theorem dL_law_343 : decode cL_law 343 = .ok (.if_icmp .ge 285, 3) := by decide +kernel
theorem dL_law_346 : decode cL_law 346 = .ok (.aload_n 0, 1) := by decide +kernel
theorem dL_law_347 : decode cL_law 347 = .ok (.iconst 3, 1) := by decide +kernel
theorem dL_law_348 : decode cL_law 348 = .ok (.iload 6, 2) := by decide +kernel
theorem dL_law_350 : decode cL_law 350 = .ok (.bipush 26, 2) := by decide +kernel
theorem dL_law_352 : decode cL_law 352 = .ok (.irem, 1) := by decide +kernel
theorem dL_law_353 : decode cL_law 353 = .ok (.iadd, 1) := by decide +kernel
theorem dL_law_354 : decode cL_law 354 = .ok (.invokestatic 19, 3) := by decide +kernel
theorem dL_law_357 : decode cL_law 357 = .ok (.iload 6, 2) := by decide +kernel
theorem dL_law_359 : decode cL_law 359 = .ok (.bipush 26, 2) := by decide +kernel
theorem dL_law_361 : decode cL_law 361 = .ok (.idiv, 1) := by decide +kernel
theorem dL_law_362 : decode cL_law 362 = .ok (.bipush 9, 2) := by decide +kernel
theorem dL_law_364 : decode cL_law 364 = .ok (.imul, 1) := by decide +kernel
theorem dL_law_365 : decode cL_law 365 = .ok (.ishr, 1) := by decide +kernel
theorem dL_law_366 : decode cL_law 366 = .ok (.istore 7, 2) := by decide +kernel
theorem dL_law_368 : decode cL_law 368 = .ok (.aload_n 1, 1) := by decide +kernel
theorem dL_law_369 : decode cL_law 369 = .ok (.iload 7, 2) := by decide +kernel
theorem dL_law_371 : decode cL_law 371 = .ok (.invokestatic 39, 3) := by decide +kernel
theorem dL_law_374 : decode cL_law 374 = .ok (.ifCond .ne 5, 3) := by decide +kernel
theorem dL_law_377 : decode cL_law 377 = .ok (.iconst 0, 1) := by decide +kernel
theorem dL_law_378 : decode cL_law 378 = .ok (.ireturn, 1) := by decide +kernel
theorem dL_law_379 : decode cL_law 379 = .ok (.iconst 0, 1) := by decide +kernel
theorem dL_law_380 : decode cL_law 380 = .ok (.istore 8, 2) := by decide +kernel
theorem dL_law_382 : decode cL_law 382 = .ok (.iload 8, 2) := by decide +kernel
theorem dL_law_384 : decode cL_law 384 = .ok (.aload_n 1, 1) := by decide +kernel
theorem dL_law_385 : decode cL_law 385 = .ok (.iconst 1, 1) := by decide +kernel
theorem dL_law_386 : decode cL_law 386 = .ok (.invokevirtual 43, 3) := by decide +kernel
theorem dL_law_389 : decode cL_law 389 = .ok (.if_icmp .ge 84, 3) := by decide +kernel
theorem dL_law_392 : decode cL_law 392 = .ok (.aload 4, 2) := by decide +kernel
theorem dL_law_394 : decode cL_law 394 = .ok (.iload 8, 2) := by decide +kernel
theorem dL_law_396 : decode cL_law 396 = .ok (.aaload, 1) := by decide +kernel
theorem dL_law_397 : decode cL_law 397 = .ok (.iconst 0, 1) := by decide +kernel
theorem dL_law_398 : decode cL_law 398 = .ok (.iaload, 1) := by decide +kernel
theorem dL_law_399 : decode cL_law 399 = .ok (.iconst 1, 1) := by decide +kernel
theorem dL_law_400 : decode cL_law 400 = .ok (.if_icmp .le 39, 3) := by decide +kernel
theorem dL_law_403 : decode cL_law 403 = .ok (.aload_n 1, 1) := by decide +kernel
theorem dL_law_404 : decode cL_law 404 = .ok (.iload 8, 2) := by decide +kernel
theorem dL_law_406 : decode cL_law 406 = .ok (.iconst 1, 1) := by decide +kernel
theorem dL_law_407 : decode cL_law 407 = .ok (.invokevirtual 47, 3) := by decide +kernel
theorem dL_law_410 : decode cL_law 410 = .ok (.aload 4, 2) := by decide +kernel
theorem dL_law_412 : decode cL_law 412 = .ok (.iload 8, 2) := by decide +kernel
theorem dL_law_414 : decode cL_law 414 = .ok (.aaload, 1) := by decide +kernel
theorem dL_law_415 : decode cL_law 415 = .ok (.iconst 0, 1) := by decide +kernel
theorem dL_law_416 : decode cL_law 416 = .ok (.iaload, 1) := by decide +kernel
theorem dL_law_417 : decode cL_law 417 = .ok (.if_icmp .ne 20, 3) := by decide +kernel
theorem dL_law_420 : decode cL_law 420 = .ok (.aload_n 1, 1) := by decide +kernel
theorem dL_law_421 : decode cL_law 421 = .ok (.iload 8, 2) := by decide +kernel
theorem dL_law_423 : decode cL_law 423 = .ok (.iconst 3, 1) := by decide +kernel
theorem dL_law_424 : decode cL_law 424 = .ok (.invokevirtual 47, 3) := by decide +kernel
theorem dL_law_427 : decode cL_law 427 = .ok (.aload 4, 2) := by decide +kernel
theorem dL_law_429 : decode cL_law 429 = .ok (.iload 8, 2) := by decide +kernel
theorem dL_law_431 : decode cL_law 431 = .ok (.aaload, 1) := by decide +kernel
theorem dL_law_432 : decode cL_law 432 = .ok (.iconst 1, 1) := by decide +kernel
theorem dL_law_433 : decode cL_law 433 = .ok (.iaload, 1) := by decide +kernel
theorem dL_law_434 : decode cL_law 434 = .ok (.if_icmp .eq 5, 3) := by decide +kernel
theorem dL_law_437 : decode cL_law 437 = .ok (.iconst 0, 1) := by decide +kernel
theorem dL_law_438 : decode cL_law 438 = .ok (.ireturn, 1) := by decide +kernel
theorem dL_law_439 : decode cL_law 439 = .ok (.aload 4, 2) := by decide +kernel
theorem dL_law_441 : decode cL_law 441 = .ok (.iload 8, 2) := by decide +kernel
theorem dL_law_443 : decode cL_law 443 = .ok (.aaload, 1) := by decide +kernel
theorem dL_law_444 : decode cL_law 444 = .ok (.iconst 0, 1) := by decide +kernel
theorem dL_law_445 : decode cL_law 445 = .ok (.aload_n 1, 1) := by decide +kernel
theorem dL_law_446 : decode cL_law 446 = .ok (.iload 8, 2) := by decide +kernel
theorem dL_law_448 : decode cL_law 448 = .ok (.iconst 1, 1) := by decide +kernel
theorem dL_law_449 : decode cL_law 449 = .ok (.invokevirtual 47, 3) := by decide +kernel
theorem dL_law_452 : decode cL_law 452 = .ok (.iastore, 1) := by decide +kernel
theorem dL_law_453 : decode cL_law 453 = .ok (.aload 4, 2) := by decide +kernel
theorem dL_law_455 : decode cL_law 455 = .ok (.iload 8, 2) := by decide +kernel
theorem dL_law_457 : decode cL_law 457 = .ok (.aaload, 1) := by decide +kernel
theorem dL_law_458 : decode cL_law 458 = .ok (.iconst 1, 1) := by decide +kernel
theorem dL_law_459 : decode cL_law 459 = .ok (.aload_n 1, 1) := by decide +kernel
theorem dL_law_460 : decode cL_law 460 = .ok (.iload 8, 2) := by decide +kernel
theorem dL_law_462 : decode cL_law 462 = .ok (.iconst 3, 1) := by decide +kernel
theorem dL_law_463 : decode cL_law 463 = .ok (.invokevirtual 47, 3) := by decide +kernel
theorem dL_law_466 : decode cL_law 466 = .ok (.iastore, 1) := by decide +kernel
theorem dL_law_467 : decode cL_law 467 = .ok (.iinc 8 1, 3) := by decide +kernel
theorem dL_law_470 : decode cL_law 470 = .ok (.goto (-88), 3) := by decide +kernel
theorem dL_law_473 : decode cL_law 473 = .ok (.iconst 0, 1) := by decide +kernel
theorem dL_law_474 : decode cL_law 474 = .ok (.istore 8, 2) := by decide +kernel
theorem dL_law_476 : decode cL_law 476 = .ok (.iload 8, 2) := by decide +kernel
theorem dL_law_478 : decode cL_law 478 = .ok (.aload_n 1, 1) := by decide +kernel
theorem dL_law_479 : decode cL_law 479 = .ok (.bipush 7, 2) := by decide +kernel
theorem dL_law_481 : decode cL_law 481 = .ok (.invokevirtual 43, 3) := by decide +kernel
theorem dL_law_484 : decode cL_law 484 = .ok (.if_icmp .ge 101, 3) := by decide +kernel
theorem dL_law_487 : decode cL_law 487 = .ok (.aload 5, 2) := by decide +kernel
theorem dL_law_489 : decode cL_law 489 = .ok (.iload 8, 2) := by decide +kernel
theorem dL_law_491 : decode cL_law 491 = .ok (.aaload, 1) := by decide +kernel
theorem dL_law_492 : decode cL_law 492 = .ok (.iconst 0, 1) := by decide +kernel
theorem dL_law_493 : decode cL_law 493 = .ok (.iaload, 1) := by decide +kernel
theorem dL_law_494 : decode cL_law 494 = .ok (.aload_n 1, 1) := by decide +kernel
theorem dL_law_495 : decode cL_law 495 = .ok (.iload 8, 2) := by decide +kernel
theorem dL_law_497 : decode cL_law 497 = .ok (.iconst 1, 1) := by decide +kernel
theorem dL_law_498 : decode cL_law 498 = .ok (.invokevirtual 50, 3) := by decide +kernel
theorem dL_law_501 : decode cL_law 501 = .ok (.if_icmp .gt 48, 3) := by decide +kernel
theorem dL_law_504 : decode cL_law 504 = .ok (.aload 5, 2) := by decide +kernel
theorem dL_law_506 : decode cL_law 506 = .ok (.iload 8, 2) := by decide +kernel
theorem dL_law_508 : decode cL_law 508 = .ok (.aaload, 1) := by decide +kernel
theorem dL_law_509 : decode cL_law 509 = .ok (.iconst 1, 1) := by decide +kernel
theorem dL_law_510 : decode cL_law 510 = .ok (.iaload, 1) := by decide +kernel
theorem dL_law_511 : decode cL_law 511 = .ok (.aload_n 1, 1) := by decide +kernel
theorem dL_law_512 : decode cL_law 512 = .ok (.iload 8, 2) := by decide +kernel
theorem dL_law_514 : decode cL_law 514 = .ok (.iconst 2, 1) := by decide +kernel
theorem dL_law_515 : decode cL_law 515 = .ok (.invokevirtual 50, 3) := by decide +kernel
theorem dL_law_518 : decode cL_law 518 = .ok (.if_icmp .gt 31, 3) := by decide +kernel
theorem dL_law_521 : decode cL_law 521 = .ok (.aload 5, 2) := by decide +kernel
theorem dL_law_523 : decode cL_law 523 = .ok (.iload 8, 2) := by decide +kernel
theorem dL_law_525 : decode cL_law 525 = .ok (.aaload, 1) := by decide +kernel
theorem dL_law_526 : decode cL_law 526 = .ok (.iconst 0, 1) := by decide +kernel
theorem dL_law_527 : decode cL_law 527 = .ok (.iaload, 1) := by decide +kernel
theorem dL_law_528 : decode cL_law 528 = .ok (.iconst 2, 1) := by decide +kernel
theorem dL_law_529 : decode cL_law 529 = .ok (.if_icmp .ne 22, 3) := by decide +kernel
theorem dL_law_532 : decode cL_law 532 = .ok (.aload 5, 2) := by decide +kernel
theorem dL_law_534 : decode cL_law 534 = .ok (.iload 8, 2) := by decide +kernel
theorem dL_law_536 : decode cL_law 536 = .ok (.aaload, 1) := by decide +kernel
theorem dL_law_537 : decode cL_law 537 = .ok (.iconst 1, 1) := by decide +kernel
theorem dL_law_538 : decode cL_law 538 = .ok (.iaload, 1) := by decide +kernel
theorem dL_law_539 : decode cL_law 539 = .ok (.aload_n 1, 1) := by decide +kernel
theorem dL_law_540 : decode cL_law 540 = .ok (.iload 8, 2) := by decide +kernel
theorem dL_law_542 : decode cL_law 542 = .ok (.iconst 2, 1) := by decide +kernel
theorem dL_law_543 : decode cL_law 543 = .ok (.invokevirtual 50, 3) := by decide +kernel
theorem dL_law_546 : decode cL_law 546 = .ok (.if_icmp .eq 5, 3) := by decide +kernel
theorem dL_law_549 : decode cL_law 549 = .ok (.iconst 0, 1) := by decide +kernel
theorem dL_law_550 : decode cL_law 550 = .ok (.ireturn, 1) := by decide +kernel
theorem dL_law_551 : decode cL_law 551 = .ok (.aload 5, 2) := by decide +kernel
theorem dL_law_553 : decode cL_law 553 = .ok (.iload 8, 2) := by decide +kernel
theorem dL_law_555 : decode cL_law 555 = .ok (.aaload, 1) := by decide +kernel
theorem dL_law_556 : decode cL_law 556 = .ok (.iconst 0, 1) := by decide +kernel
theorem dL_law_557 : decode cL_law 557 = .ok (.aload_n 1, 1) := by decide +kernel
theorem dL_law_558 : decode cL_law 558 = .ok (.iload 8, 2) := by decide +kernel
theorem dL_law_560 : decode cL_law 560 = .ok (.iconst 1, 1) := by decide +kernel
theorem dL_law_561 : decode cL_law 561 = .ok (.invokevirtual 50, 3) := by decide +kernel
theorem dL_law_564 : decode cL_law 564 = .ok (.iastore, 1) := by decide +kernel
theorem dL_law_565 : decode cL_law 565 = .ok (.aload 5, 2) := by decide +kernel
theorem dL_law_567 : decode cL_law 567 = .ok (.iload 8, 2) := by decide +kernel
theorem dL_law_569 : decode cL_law 569 = .ok (.aaload, 1) := by decide +kernel
theorem dL_law_570 : decode cL_law 570 = .ok (.iconst 1, 1) := by decide +kernel
theorem dL_law_571 : decode cL_law 571 = .ok (.aload_n 1, 1) := by decide +kernel
theorem dL_law_572 : decode cL_law 572 = .ok (.iload 8, 2) := by decide +kernel
theorem dL_law_574 : decode cL_law 574 = .ok (.iconst 2, 1) := by decide +kernel
theorem dL_law_575 : decode cL_law 575 = .ok (.invokevirtual 50, 3) := by decide +kernel
theorem dL_law_578 : decode cL_law 578 = .ok (.iastore, 1) := by decide +kernel
theorem dL_law_579 : decode cL_law 579 = .ok (.iinc 8 1, 3) := by decide +kernel
theorem dL_law_582 : decode cL_law 582 = .ok (.goto (-106), 3) := by decide +kernel
theorem dL_law_585 : decode cL_law 585 = .ok (.iload 6, 2) := by decide +kernel
theorem dL_law_587 : decode cL_law 587 = .ok (.bipush 9, 2) := by decide +kernel
theorem dL_law_589 : decode cL_law 589 = .ok (.irem, 1) := by decide +kernel
theorem dL_law_590 : decode cL_law 590 = .ok (.bipush 8, 2) := by decide +kernel
theorem dL_law_592 : decode cL_law 592 = .ok (.if_icmp .eq 6, 3) := by decide +kernel
theorem dL_law_595 : decode cL_law 595 = .ok (.goto 27, 3) := by decide +kernel
theorem dL_law_598 : decode cL_law 598 = .ok (.aload_n 1, 1) := by decide +kernel
theorem dL_law_599 : decode cL_law 599 = .ok (.aload_n 2, 1) := by decide +kernel
theorem dL_law_600 : decode cL_law 600 = .ok (.invokestatic 53, 3) := by decide +kernel
theorem dL_law_603 : decode cL_law 603 = .ok (.ifCond .eq 17, 3) := by decide +kernel
theorem dL_law_606 : decode cL_law 606 = .ok (.aload_n 1, 1) := by decide +kernel
theorem dL_law_607 : decode cL_law 607 = .ok (.invokestatic 57, 3) := by decide +kernel
theorem dL_law_610 : decode cL_law 610 = .ok (.ifCond .eq 10, 3) := by decide +kernel
theorem dL_law_613 : decode cL_law 613 = .ok (.aload_n 1, 1) := by decide +kernel
theorem dL_law_614 : decode cL_law 614 = .ok (.invokestatic 60, 3) := by decide +kernel
theorem dL_law_617 : decode cL_law 617 = .ok (.ifCond .ne 5, 3) := by decide +kernel
theorem dL_law_620 : decode cL_law 620 = .ok (.iconst 0, 1) := by decide +kernel
theorem dL_law_621 : decode cL_law 621 = .ok (.ireturn, 1) := by decide +kernel
theorem dL_law_622 : decode cL_law 622 = .ok (.iinc 6 1, 3) := by decide +kernel
theorem dL_law_625 : decode cL_law 625 = .ok (.goto (-286), 3) := by decide +kernel
theorem dL_law_628 : decode cL_law 628 = .ok (.aload_n 1, 1) := by decide +kernel
theorem dL_law_629 : decode cL_law 629 = .ok (.invokevirtual 63, 3) := by decide +kernel
theorem dL_law_632 : decode cL_law 632 = .ok (.lstore 6, 2) := by decide +kernel
theorem dL_law_634 : decode cL_law 634 = .ok (.aload_n 1, 1) := by decide +kernel
theorem dL_law_635 : decode cL_law 635 = .ok (.iconst 1, 1) := by decide +kernel
theorem dL_law_636 : decode cL_law 636 = .ok (.iconst 1, 1) := by decide +kernel
theorem dL_law_637 : decode cL_law 637 = .ok (.invokevirtual 67, 3) := by decide +kernel
theorem dL_law_640 : decode cL_law 640 = .ok (.aload_n 1, 1) := by decide +kernel
theorem dL_law_641 : decode cL_law 641 = .ok (.invokestatic 70, 3) := by decide +kernel
theorem dL_law_644 : decode cL_law 644 = .ok (.if_icmp .lt 17, 3) := by decide +kernel
theorem dL_law_647 : decode cL_law 647 = .ok (.aload_n 1, 1) := by decide +kernel
theorem dL_law_648 : decode cL_law 648 = .ok (.invokevirtual 63, 3) := by decide +kernel
theorem dL_law_651 : decode cL_law 651 = .ok (.lload 6, 2) := by decide +kernel
theorem dL_law_653 : decode cL_law 653 = .ok (.lcmp, 1) := by decide +kernel
theorem dL_law_654 : decode cL_law 654 = .ok (.ifCond .ne 7, 3) := by decide +kernel
theorem dL_law_657 : decode cL_law 657 = .ok (.iconst 1, 1) := by decide +kernel
theorem dL_law_658 : decode cL_law 658 = .ok (.goto 4, 3) := by decide +kernel
theorem dL_law_661 : decode cL_law 661 = .ok (.iconst 0, 1) := by decide +kernel
theorem dL_law_662 : decode cL_law 662 = .ok (.ireturn, 1) := by decide +kernel
set_option maxRecDepth 20000 in
theorem ggL_over_X8_many : GoodIn wsL_over wsX8_many := goodIn_ca (goodIn_r _ [5, 6, 7, 8, 4, 9, 10, 11, 12, 13, 14, 15, 16, 17, 18, 19, 20, 21, 22, 23, 24, 25, 26, 27, 28, 29, 30, 31, 32, 33, 34, 35, 36, 37, 38, 39, 40, 41, 42, 43, 44, 45, 46, 47, 48, 49, 50, 51, 52, 53, 54, 55, 56, 57, 58, 59, 60, 61, 62, 63, 64, 65, 66, 67, 68, 69, 70, 71, 72, 73, 74, 75, 76, 77, 78, 79, 80, 81, 82, 83, 84, 85, 86, 87, 88, 89, 90, 91, 92, 93, 94, 95, 96, 97, 98, 99, 100, 101, 102, 103, 104] (by decide +kernel) (by decide +kernel)) (goodIn_sub (fun _ h => List.mem_cons_of_mem _ (List.mem_append_right _ h)) (by decide +kernel))
set_option maxRecDepth 20000 in
theorem gL_over_X8_many : GoodIn wsL_over (wsV RL 43 RX8 yX8_many wsX8_many) := goodIn_app (goodIn_of _ (by decide +kernel)) ggL_over_X8_many
theorem dL_over_0 : decode cL_over 0 = .ok (.aload_n 0, 1) := by decide +kernel
theorem dL_over_1 : decode cL_over 1 = .ok (.iconst 4, 1) := by decide +kernel
theorem dL_over_2 : decode cL_over 2 = .ok (.invokevirtual 43, 3) := by decide +kernel
theorem dL_over_5 : decode cL_over 5 = .ok (.aload_n 0, 1) := by decide +kernel
theorem dL_over_6 : decode cL_over 6 = .ok (.iconst 5, 1) := by decide +kernel
theorem dL_over_7 : decode cL_over 7 = .ok (.invokevirtual 43, 3) := by decide +kernel
theorem dL_over_10 : decode cL_over 10 = .ok (.iadd, 1) := by decide +kernel
theorem dL_over_11 : decode cL_over 11 = .ok (.aload_n 0, 1) := by decide +kernel
theorem dL_over_12 : decode cL_over 12 = .ok (.bipush 6, 2) := by decide +kernel
theorem dL_over_14 : decode cL_over 14 = .ok (.invokevirtual 43, 3) := by decide +kernel
theorem dL_over_17 : decode cL_over 17 = .ok (.iadd, 1) := by decide +kernel
theorem dL_over_18 : decode cL_over 18 = .ok (.ireturn, 1) := by decide +kernel
set_option maxRecDepth 20000 in
theorem ggL_act_X8_many : GoodIn wsL_act wsX8_many := goodIn_ca (goodIn_r _ [11, 12, 13, 14, 10, 15, 16, 17, 18, 19, 20, 21, 22, 23, 24, 25, 26, 27, 28, 29, 30, 31, 32, 33, 34, 35, 36, 37, 38, 39, 40, 41, 42, 43, 44, 45, 46, 47, 48, 49, 50, 51, 52, 53, 480, 481, 482, 483, 484, 485, 486, 487, 488, 489, 490, 491, 492, 493, 494, 495, 496, 497, 498, 499, 500, 501, 502, 503, 504, 505, 506, 507, 508, 509, 510, 511, 512, 513, 514, 515, 516, 517, 518, 519, 520, 521, 522, 523, 524, 525, 526, 527, 528, 529, 530, 531, 532, 533, 534, 535, 536] (by decide +kernel) (by decide +kernel)) (goodIn_sub (fun _ h => List.mem_cons_of_mem _ (List.mem_append_left _ (List.mem_append_left _ (List.mem_append_right _ h)))) (by decide +kernel))
set_option maxRecDepth 20000 in
theorem gL_act_X8_many : GoodIn wsL_act (wsV RL 43 RX8 yX8_many wsX8_many) := goodIn_app (goodIn_of _ (by decide +kernel)) ggL_act_X8_many
set_option maxRecDepth 20000 in
theorem ggL_act_L_below : GoodIn wsL_act wsL_below := goodIn_r _ [57, 58] (by decide +kernel) (by decide +kernel)
set_option maxRecDepth 20000 in
theorem gL_act_L_below : GoodIn wsL_act (va_wsS RL 25 yL_below wsL_below) := goodIn_app (goodIn_of _ (by decide +kernel)) ggL_act_L_below
set_option maxRecDepth 20000 in
theorem ggL_act_X8_start : GoodIn wsL_act wsX8_start := goodIn_ca (goodIn_ca (goodIn_r _ [62, 63, 64, 65, 66, 67, 68, 69, 10, 70, 71, 72, 73, 74, 75, 76, 77, 78, 79, 80, 81, 82, 83, 84, 85, 86, 87, 88, 89, 90, 91, 92, 93, 480, 481, 482, 483, 484, 485, 486, 489, 490, 491, 492, 493, 494, 495, 496, 497, 498, 499, 500, 501, 502, 503, 504, 505, 506, 507, 508, 509, 510, 511, 512, 513, 514, 515, 516, 517, 518, 519, 520, 521, 522] (by decide +kernel) (by decide +kernel)) (goodIn_sub (fun _ h => List.mem_cons_of_mem _ (List.mem_append_left _ (List.mem_append_right _ h))) (by decide +kernel))) (goodIn_sub (fun _ h => List.mem_cons_of_mem _ (List.mem_append_right _ h)) (by decide +kernel))
set_option maxRecDepth 20000 in
theorem gL_act_X8_start : GoodIn wsL_act (wsV RL 74 RX8 yX8_start wsX8_start) := goodIn_app (goodIn_of _ (by decide +kernel)) ggL_act_X8_start
set_option maxRecDepth 20000 in
theorem ggL_act_X8_ofTask : GoodIn wsL_act wsX8_ofTask := goodIn_ca (goodIn_ca (goodIn_r _ [97, 67, 98, 12, 68, 69, 10, 70, 71, 72, 13, 14, 15, 16, 17, 99, 100, 101, 21, 102, 25, 103, 36, 104, 105, 106, 107, 108, 109, 83, 84, 76, 85, 86, 110, 111, 112, 113, 114, 115, 116, 117, 118, 119, 120, 121, 122, 123, 124, 125, 126, 127, 80, 128, 129, 130, 131, 132, 480, 481, 482, 483, 484, 485, 486, 494, 495, 496, 497, 498, 499, 500, 501, 502, 503, 504, 505, 487, 488, 506, 507, 508, 509, 510, 511, 512, 513, 514, 515, 516, 517, 518, 519, 520, 521, 522, 523, 524, 525, 526, 527, 528, 529, 530, 531, 532, 533, 534, 535, 536] (by decide +kernel) (by decide +kernel)) (goodIn_sub (fun _ h => List.mem_cons_of_mem _ (List.mem_append_right _ h)) (by decide +kernel))) (goodIn_sub (fun _ h => List.mem_cons_of_mem _ (List.mem_append_left _ (List.mem_append_left _ (List.mem_append_right _ h)))) (by decide +kernel))
set_option maxRecDepth 20000 in
theorem gL_act_X8_ofTask : GoodIn wsL_act (wsV RL 47 RX8 yX8_ofTask wsX8_ofTask) := goodIn_app (goodIn_of _ (by decide +kernel)) ggL_act_X8_ofTask
set_option maxRecDepth 20000 in
theorem ggL_act_X8_wouldHit : GoodIn wsL_act wsX8_wouldHit := goodIn_ca (goodIn_r _ [136, 67, 137, 12, 68, 69, 10, 70, 71, 72, 138, 139, 140, 21, 141, 25, 35, 36, 123, 124, 125, 76, 126, 127, 80, 128, 129, 130, 131, 132, 480, 481, 482, 483, 484, 485, 486, 494, 495, 496, 497, 498, 499, 500, 501, 502, 503, 504, 505, 487, 488, 506, 507, 508, 509, 510, 511, 512, 513, 514, 515, 516, 517, 518, 519, 520, 521, 522, 523, 524, 525, 526, 527, 528, 529, 530, 531, 532, 533, 534, 535, 536] (by decide +kernel) (by decide +kernel)) (goodIn_sub (fun _ h => List.mem_cons_of_mem _ (List.mem_append_right _ h)) (by decide +kernel))
set_option maxRecDepth 20000 in
theorem gL_act_X8_wouldHit : GoodIn wsL_act (wsV RL 82 RX8 yX8_wouldHit wsX8_wouldHit) := goodIn_app (goodIn_of _ (by decide +kernel)) ggL_act_X8_wouldHit
set_option maxRecDepth 20000 in
theorem ggL_act_X8_ofScope : GoodIn wsL_act wsX8_ofScope := goodIn_ca (goodIn_ca (goodIn_r _ [145, 67, 137, 12, 68, 69, 10, 70, 71, 72, 13, 14, 15, 16, 17, 146, 147, 148, 21, 149, 25, 150, 52, 53, 151, 152, 153, 154, 155, 156, 157, 158, 159, 76, 160, 128, 480, 481, 482, 483, 484, 485, 486, 494, 495, 496, 497, 498, 499, 500, 501, 502, 503, 504, 505, 487, 488, 523, 524, 525, 526, 527, 528, 529, 530, 531, 532, 533, 534, 535, 536] (by decide +kernel) (by decide +kernel)) (goodIn_sub (fun _ h => List.mem_cons_of_mem _ (List.mem_append_right _ h)) (by decide +kernel))) (goodIn_sub (fun _ h => List.mem_cons_of_mem _ (List.mem_append_left _ (List.mem_append_left _ (List.mem_append_right _ h)))) (by decide +kernel))
set_option maxRecDepth 20000 in
theorem gL_act_X8_ofScope : GoodIn wsL_act (wsV RL 50 RX8 yX8_ofScope wsX8_ofScope) := goodIn_app (goodIn_of _ (by decide +kernel)) ggL_act_X8_ofScope
set_option maxRecDepth 20000 in
theorem ggL_act_X8_cancel : GoodIn wsL_act wsX8_cancel := goodIn_ca (goodIn_r _ [164, 67, 137, 68, 69, 10, 70, 71, 72, 165, 158, 159, 76, 160, 128, 166, 167, 168, 169, 130, 86, 91, 170, 171, 43, 44, 45, 46, 47, 172, 124, 125, 126, 127, 80, 129, 131, 132, 87, 88, 89, 90, 92, 93, 81, 480, 481, 482, 483, 484, 485, 486, 494, 495, 496, 497, 498, 499, 500, 501, 502, 503, 504, 505, 523, 524, 525, 526, 527, 528, 529, 530, 531, 532, 533, 534, 535, 536, 506, 507, 508, 509, 510, 511, 512, 513, 514, 515, 516, 517, 518, 519, 520, 521, 522] (by decide +kernel) (by decide +kernel)) (goodIn_sub (fun _ h => List.mem_cons_of_mem _ (List.mem_append_right _ h)) (by decide +kernel))
set_option maxRecDepth 20000 in
theorem gL_act_X8_cancel : GoodIn wsL_act (wsV RL 85 RX8 yX8_cancel wsX8_cancel) := goodIn_app (goodIn_of _ (by decide +kernel)) ggL_act_X8_cancel
set_option maxRecDepth 20000 in
theorem ggL_act_X8_tick : GoodIn wsL_act wsX8_tick := goodIn_ca (goodIn_r _ [176, 67, 13, 14, 10, 15, 16, 17, 177, 178, 179, 76, 180, 92, 181, 128, 182, 86, 183, 171, 43, 44, 45, 46, 47, 184, 167, 168, 169, 130, 91, 170, 172, 124, 125, 126, 127, 80, 129, 131, 132, 87, 88, 89, 90, 93, 81, 185, 186, 187, 113, 188, 115, 189, 480, 481, 482, 483, 484, 485, 486, 494, 495, 496, 497, 498, 499, 500, 501, 502, 503, 504, 505, 523, 524, 525, 526, 527, 528, 529, 530, 531, 532, 533, 534, 535, 536, 506, 507, 508, 509, 510, 511, 512, 513, 514, 515, 516, 517, 518, 519, 520, 521, 522] (by decide +kernel) (by decide +kernel)) (goodIn_sub (fun _ h => List.mem_cons_of_mem _ (List.mem_append_left _ (List.mem_append_left _ (List.mem_append_right _ h)))) (by decide +kernel))
set_option maxRecDepth 20000 in
theorem gL_act_X8_tick : GoodIn wsL_act (wsV RL 89 RX8 yX8_tick wsX8_tick) := goodIn_app (goodIn_of _ (by decide +kernel)) ggL_act_X8_tick
set_option maxRecDepth 20000 in
theorem ggL_act_X8_run : GoodIn wsL_act wsX8_run := goodIn_ca (goodIn_r _ [193, 194, 13, 14, 10, 15, 16, 17, 195, 196, 197, 198, 199, 200, 201, 202, 203, 204, 205, 76, 206, 92, 93, 82, 83, 84, 85, 86, 207, 208, 209, 210, 211, 212, 213, 214, 215, 216, 217, 218, 219, 220, 221, 222, 223, 224, 225, 226, 227, 228, 229, 158, 159, 160, 128, 230, 231, 124, 125, 126, 127, 80, 129, 130, 131, 132, 232, 233, 234, 235, 236, 237, 238, 239, 240, 241, 242, 243, 244, 245, 246, 247, 248, 249, 250, 251, 252, 253, 254, 91, 170, 255, 256, 257, 258, 259, 260, 261, 262, 263, 264, 87, 88, 89, 90, 81, 265, 266, 267, 268, 269, 270, 271, 272, 273, 274, 275, 276, 277, 278, 279, 280, 281, 282, 283, 113, 284, 285, 286, 287, 288, 289, 290, 291, 292, 293, 294, 295, 296, 297, 298, 299, 300, 301, 302, 303, 304, 305, 306, 307, 308, 309, 310, 311, 312, 313, 314, 315, 316, 317, 318, 319, 320, 321, 322, 323, 5, 324, 325, 4, 6, 326, 327, 328, 329, 330, 331, 332, 333, 334, 335, 336, 337, 338, 339, 340, 341, 342, 343, 344, 345, 346, 347, 348, 349, 350, 351, 352, 353, 354, 45, 355, 47, 356, 357, 358, 359, 360, 361, 362, 363, 364, 365, 366, 367, 368, 369, 370, 371, 74, 75, 77, 78, 79, 372, 373, 374, 375, 376, 167, 168, 169, 171, 43, 44, 46, 172, 377, 378, 379, 380, 381, 382, 383, 384, 385, 386, 387, 388, 389, 390, 391, 392, 393, 394, 395, 396, 397, 398, 399, 400, 401, 402, 403, 404, 405, 406, 407, 408, 409, 410, 411, 412, 413, 414, 415, 416, 417, 418, 419, 420, 421, 422, 423, 424, 425, 426, 427, 428, 429, 430, 431, 432, 433, 434, 435, 436, 437, 438, 439, 440, 441, 442, 443, 444, 445, 446, 447, 448, 449, 450, 451, 452, 453, 454, 455, 456, 457, 458, 459, 460, 461, 462, 463, 464, 465, 466, 467, 468, 469, 470, 471, 472, 473, 474, 475, 476, 477, 478, 186, 187, 188, 115, 189, 479, 480, 481, 482, 483, 484, 485, 486, 537, 538, 539, 494, 495, 496, 497, 498, 499, 500, 501, 502, 503, 504, 505, 506, 507, 508, 509, 510, 511, 512, 513, 514, 515, 516, 517, 518, 519, 520, 521, 522, 523, 524, 525, 526, 527, 528, 529, 530, 531, 532, 533, 534, 535, 536, 540, 541, 542, 543, 544, 545, 546, 547, 489, 490, 491, 492, 493] (by decide +kernel) (by decide +kernel)) (goodIn_sub (fun _ h => List.mem_cons_of_mem _ (List.mem_append_left _ (List.mem_append_left _ (List.mem_append_right _ h)))) (by decide +kernel))
set_option maxRecDepth 20000 in
theorem gL_act_X8_run : GoodIn wsL_act (wsV RL 92 RX8 yX8_run wsX8_run) := goodIn_app (goodIn_of _ (by decide +kernel)) ggL_act_X8_run
theorem dL_act_0 : decode cL_act 0 = .ok (.aload_n 0, 1) := by decide +kernel
theorem dL_act_1 : decode cL_act 1 = .ok (.iconst 1, 1) := by decide +kernel
theorem dL_act_2 : decode cL_act 2 = .ok (.invokevirtual 43, 3) := by decide +kernel
theorem dL_act_5 : decode cL_act 5 = .ok (.istore_n 2, 1) := by decide +kernel
theorem dL_act_6 : decode cL_act 6 = .ok (.iload_n 1, 1) := by decide +kernel
theorem dL_act_7 : decode cL_act 7 = .ok (.bipush 9, 2) := by decide +kernel
theorem dL_act_9 : decode cL_act 9 = .ok (.invokestatic 25, 3) := by decide +kernel
theorem dL_act_12 : decode cL_act 12 = .ok (.tableswitch 250 0 4 #[36, 36, 84, 180, 180], 36) := by decide +kernel
theorem dL_act_48 : decode cL_act 48 = .ok (.aload_n 0, 1) := by decide +kernel
theorem dL_act_49 : decode cL_act 49 = .ok (.iload_n 1, 1) := by decide +kernel
theorem dL_act_50 : decode cL_act 50 = .ok (.iconst 4, 1) := by decide +kernel
theorem dL_act_51 : decode cL_act 51 = .ok (.ishr, 1) := by decide +kernel
theorem dL_act_52 : decode cL_act 52 = .ok (.iconst 5, 1) := by decide +kernel
theorem dL_act_53 : decode cL_act 53 = .ok (.invokestatic 25, 3) := by decide +kernel
theorem dL_act_56 : decode cL_act 56 = .ok (.invokevirtual 74, 3) := by decide +kernel
theorem dL_act_59 : decode cL_act 59 = .ok (.iload_n 2, 1) := by decide +kernel
theorem dL_act_60 : decode cL_act 60 = .ok (.if_icmp .ne 34, 3) := by decide +kernel
theorem dL_act_63 : decode cL_act 63 = .ok (.aload_n 0, 1) := by decide +kernel
theorem dL_act_64 : decode cL_act 64 = .ok (.iload_n 2, 1) := by decide +kernel
theorem dL_act_65 : decode cL_act 65 = .ok (.bipush 6, 2) := by decide +kernel
theorem dL_act_67 : decode cL_act 67 = .ok (.invokevirtual 47, 3) := by decide +kernel
theorem dL_act_70 : decode cL_act 70 = .ok (.aload_n 0, 1) := by decide +kernel
theorem dL_act_71 : decode cL_act 71 = .ok (.iconst 2, 1) := by decide +kernel
theorem dL_act_72 : decode cL_act 72 = .ok (.invokevirtual 43, 3) := by decide +kernel
theorem dL_act_75 : decode cL_act 75 = .ok (.iconst 1, 1) := by decide +kernel
theorem dL_act_76 : decode cL_act 76 = .ok (.isub, 1) := by decide +kernel
theorem dL_act_77 : decode cL_act 77 = .ok (.if_icmp .ne 17, 3) := by decide +kernel
theorem dL_act_80 : decode cL_act 80 = .ok (.aload_n 0, 1) := by decide +kernel
theorem dL_act_81 : decode cL_act 81 = .ok (.iload_n 2, 1) := by decide +kernel
theorem dL_act_82 : decode cL_act 82 = .ok (.iconst 4, 1) := by decide +kernel
theorem dL_act_83 : decode cL_act 83 = .ok (.invokevirtual 47, 3) := by decide +kernel
theorem dL_act_86 : decode cL_act 86 = .ok (.iconst (-1), 1) := by decide +kernel
theorem dL_act_87 : decode cL_act 87 = .ok (.if_icmp .ne 7, 3) := by decide +kernel
theorem dL_act_90 : decode cL_act 90 = .ok (.iconst 1, 1) := by decide +kernel
theorem dL_act_91 : decode cL_act 91 = .ok (.goto 4, 3) := by decide +kernel
theorem dL_act_94 : decode cL_act 94 = .ok (.iconst 0, 1) := by decide +kernel
theorem dL_act_95 : decode cL_act 95 = .ok (.ireturn, 1) := by decide +kernel
theorem dL_act_96 : decode cL_act 96 = .ok (.iload_n 1, 1) := by decide +kernel
theorem dL_act_97 : decode cL_act 97 = .ok (.iconst 4, 1) := by decide +kernel
theorem dL_act_98 : decode cL_act 98 = .ok (.ishr, 1) := by decide +kernel
theorem dL_act_99 : decode cL_act 99 = .ok (.iconst 1, 1) := by decide +kernel
theorem dL_act_100 : decode cL_act 100 = .ok (.aload_n 0, 1) := by decide +kernel
theorem dL_act_101 : decode cL_act 101 = .ok (.bipush 7, 2) := by decide +kernel
theorem dL_act_103 : decode cL_act 103 = .ok (.invokevirtual 43, 3) := by decide +kernel
theorem dL_act_106 : decode cL_act 106 = .ok (.invokestatic 77, 3) := by decide +kernel
theorem dL_act_109 : decode cL_act 109 = .ok (.invokestatic 25, 3) := by decide +kernel
theorem dL_act_112 : decode cL_act 112 = .ok (.istore_n 3, 1) := by decide +kernel
theorem dL_act_113 : decode cL_act 113 = .ok (.aload_n 0, 1) := by decide +kernel
theorem dL_act_114 : decode cL_act 114 = .ok (.iload_n 3, 1) := by decide +kernel
theorem dL_act_115 : decode cL_act 115 = .ok (.invokevirtual 82, 3) := by decide +kernel
theorem dL_act_118 : decode cL_act 118 = .ok (.istore 4, 2) := by decide +kernel
theorem dL_act_120 : decode cL_act 120 = .ok (.aload_n 0, 1) := by decide +kernel
theorem dL_act_121 : decode cL_act 121 = .ok (.iload_n 3, 1) := by decide +kernel
theorem dL_act_122 : decode cL_act 122 = .ok (.iconst 1, 1) := by decide +kernel
theorem dL_act_123 : decode cL_act 123 = .ok (.invokevirtual 50, 3) := by decide +kernel
theorem dL_act_126 : decode cL_act 126 = .ok (.iconst 2, 1) := by decide +kernel
theorem dL_act_127 : decode cL_act 127 = .ok (.if_icmp .ge 16, 3) := by decide +kernel
theorem dL_act_130 : decode cL_act 130 = .ok (.aload_n 0, 1) := by decide +kernel
theorem dL_act_131 : decode cL_act 131 = .ok (.iload_n 3, 1) := by decide +kernel
theorem dL_act_132 : decode cL_act 132 = .ok (.iconst 2, 1) := by decide +kernel
theorem dL_act_133 : decode cL_act 133 = .ok (.invokevirtual 50, 3) := by decide +kernel
theorem dL_act_136 : decode cL_act 136 = .ok (.ifCond .ne 7, 3) := by decide +kernel
theorem dL_act_139 : decode cL_act 139 = .ok (.iconst 1, 1) := by decide +kernel
theorem dL_act_140 : decode cL_act 140 = .ok (.goto 4, 3) := by decide +kernel
theorem dL_act_143 : decode cL_act 143 = .ok (.iconst 0, 1) := by decide +kernel
theorem dL_act_144 : decode cL_act 144 = .ok (.istore 5, 2) := by decide +kernel
theorem dL_act_146 : decode cL_act 146 = .ok (.aload_n 0, 1) := by decide +kernel
theorem dL_act_147 : decode cL_act 147 = .ok (.iload_n 3, 1) := by decide +kernel
theorem dL_act_148 : decode cL_act 148 = .ok (.invokevirtual 85, 3) := by decide +kernel
theorem dL_act_151 : decode cL_act 151 = .ok (.iload 5, 2) := by decide +kernel
theorem dL_act_153 : decode cL_act 153 = .ok (.if_icmp .ne 37, 3) := by decide +kernel
theorem dL_act_156 : decode cL_act 156 = .ok (.iload 5, 2) := by decide +kernel
theorem dL_act_158 : decode cL_act 158 = .ok (.ifCond .ne 8, 3) := by decide +kernel
theorem dL_act_161 : decode cL_act 161 = .ok (.iload 4, 2) := by decide +kernel
theorem dL_act_163 : decode cL_act 163 = .ok (.ifCond .ne 27, 3) := by decide +kernel
theorem dL_act_166 : decode cL_act 166 = .ok (.aload_n 0, 1) := by decide +kernel
theorem dL_act_167 : decode cL_act 167 = .ok (.iload_n 3, 1) := by decide +kernel
theorem dL_act_168 : decode cL_act 168 = .ok (.iconst 2, 1) := by decide +kernel
theorem dL_act_169 : decode cL_act 169 = .ok (.invokevirtual 50, 3) := by decide +kernel
theorem dL_act_172 : decode cL_act 172 = .ok (.iconst 1, 1) := by decide +kernel
theorem dL_act_173 : decode cL_act 173 = .ok (.if_icmp .eq 13, 3) := by decide +kernel
theorem dL_act_176 : decode cL_act 176 = .ok (.aload_n 0, 1) := by decide +kernel
theorem dL_act_177 : decode cL_act 177 = .ok (.iload_n 3, 1) := by decide +kernel
theorem dL_act_178 : decode cL_act 178 = .ok (.iconst 1, 1) := by decide +kernel
theorem dL_act_179 : decode cL_act 179 = .ok (.invokevirtual 50, 3) := by decide +kernel
theorem dL_act_182 : decode cL_act 182 = .ok (.iconst 2, 1) := by decide +kernel
theorem dL_act_183 : decode cL_act 183 = .ok (.if_icmp .ne 7, 3) := by decide +kernel
theorem dL_act_186 : decode cL_act 186 = .ok (.iconst 1, 1) := by decide +kernel
theorem dL_act_187 : decode cL_act 187 = .ok (.goto 4, 3) := by decide +kernel
theorem dL_act_190 : decode cL_act 190 = .ok (.iconst 0, 1) := by decide +kernel
theorem dL_act_191 : decode cL_act 191 = .ok (.ireturn, 1) := by decide +kernel
theorem dL_act_192 : decode cL_act 192 = .ok (.aload_n 0, 1) := by decide +kernel
theorem dL_act_193 : decode cL_act 193 = .ok (.bipush 10, 2) := by decide +kernel
theorem dL_act_195 : decode cL_act 195 = .ok (.invokevirtual 43, 3) := by decide +kernel
theorem dL_act_198 : decode cL_act 198 = .ok (.istore 6, 2) := by decide +kernel
theorem dL_act_200 : decode cL_act 200 = .ok (.aload_n 0, 1) := by decide +kernel
theorem dL_act_201 : decode cL_act 201 = .ok (.iconst 2, 1) := by decide +kernel
theorem dL_act_202 : decode cL_act 202 = .ok (.invokevirtual 43, 3) := by decide +kernel
theorem dL_act_205 : decode cL_act 205 = .ok (.istore 7, 2) := by decide +kernel
theorem dL_act_207 : decode cL_act 207 = .ok (.aload_n 0, 1) := by decide +kernel
theorem dL_act_208 : decode cL_act 208 = .ok (.iconst 1, 1) := by decide +kernel
theorem dL_act_209 : decode cL_act 209 = .ok (.iload_n 1, 1) := by decide +kernel
theorem dL_act_210 : decode cL_act 210 = .ok (.iconst 4, 1) := by decide +kernel
theorem dL_act_211 : decode cL_act 211 = .ok (.ishr, 1) := by decide +kernel
theorem dL_act_212 : decode cL_act 212 = .ok (.iconst 3, 1) := by decide +kernel
theorem dL_act_213 : decode cL_act 213 = .ok (.invokestatic 25, 3) := by decide +kernel
theorem dL_act_216 : decode cL_act 216 = .ok (.iadd, 1) := by decide +kernel
theorem dL_act_217 : decode cL_act 217 = .ok (.invokevirtual 89, 3) := by decide +kernel
theorem dL_act_220 : decode cL_act 220 = .ok (.istore 8, 2) := by decide +kernel
theorem dL_act_222 : decode cL_act 222 = .ok (.aload_n 0, 1) := by decide +kernel
theorem dL_act_223 : decode cL_act 223 = .ok (.bipush 10, 2) := by decide +kernel
theorem dL_act_225 : decode cL_act 225 = .ok (.invokevirtual 43, 3) := by decide +kernel
theorem dL_act_228 : decode cL_act 228 = .ok (.iload 6, 2) := by decide +kernel
theorem dL_act_230 : decode cL_act 230 = .ok (.iconst 1, 1) := by decide +kernel
theorem dL_act_231 : decode cL_act 231 = .ok (.iadd, 1) := by decide +kernel
theorem dL_act_232 : decode cL_act 232 = .ok (.iload_n 1, 1) := by decide +kernel
theorem dL_act_233 : decode cL_act 233 = .ok (.iconst 4, 1) := by decide +kernel
theorem dL_act_234 : decode cL_act 234 = .ok (.ishr, 1) := by decide +kernel
theorem dL_act_235 : decode cL_act 235 = .ok (.iconst 3, 1) := by decide +kernel
theorem dL_act_236 : decode cL_act 236 = .ok (.invokestatic 25, 3) := by decide +kernel
theorem dL_act_239 : decode cL_act 239 = .ok (.iadd, 1) := by decide +kernel
theorem dL_act_240 : decode cL_act 240 = .ok (.if_icmp .ne 20, 3) := by decide +kernel
theorem dL_act_243 : decode cL_act 243 = .ok (.aload_n 0, 1) := by decide +kernel
theorem dL_act_244 : decode cL_act 244 = .ok (.iconst 2, 1) := by decide +kernel
theorem dL_act_245 : decode cL_act 245 = .ok (.invokevirtual 43, 3) := by decide +kernel
theorem dL_act_248 : decode cL_act 248 = .ok (.iload 7, 2) := by decide +kernel
theorem dL_act_250 : decode cL_act 250 = .ok (.iload 8, 2) := by decide +kernel
theorem dL_act_252 : decode cL_act 252 = .ok (.iadd, 1) := by decide +kernel
theorem dL_act_253 : decode cL_act 253 = .ok (.if_icmp .ne 7, 3) := by decide +kernel
theorem dL_act_256 : decode cL_act 256 = .ok (.iconst 1, 1) := by decide +kernel
theorem dL_act_257 : decode cL_act 257 = .ok (.goto 4, 3) := by decide +kernel
theorem dL_act_260 : decode cL_act 260 = .ok (.iconst 0, 1) := by decide +kernel
theorem dL_act_261 : decode cL_act 261 = .ok (.ireturn, 1) := by decide +kernel
theorem dL_act_262 : decode cL_act 262 = .ok (.aload_n 0, 1) := by decide +kernel
theorem dL_act_263 : decode cL_act 263 = .ok (.bipush 11, 2) := by decide +kernel
theorem dL_act_265 : decode cL_act 265 = .ok (.invokevirtual 43, 3) := by decide +kernel
theorem dL_act_268 : decode cL_act 268 = .ok (.istore 9, 2) := by decide +kernel
theorem dL_act_270 : decode cL_act 270 = .ok (.aload_n 0, 1) := by decide +kernel
theorem dL_act_271 : decode cL_act 271 = .ok (.iconst 1, 1) := by decide +kernel
theorem dL_act_272 : decode cL_act 272 = .ok (.iload_n 1, 1) := by decide +kernel
theorem dL_act_273 : decode cL_act 273 = .ok (.iconst 4, 1) := by decide +kernel
theorem dL_act_274 : decode cL_act 274 = .ok (.ishr, 1) := by decide +kernel
theorem dL_act_275 : decode cL_act 275 = .ok (.bipush 9, 2) := by decide +kernel
theorem dL_act_277 : decode cL_act 277 = .ok (.invokestatic 25, 3) := by decide +kernel
theorem dL_act_280 : decode cL_act 280 = .ok (.iadd, 1) := by decide +kernel
theorem dL_act_281 : decode cL_act 281 = .ok (.invokevirtual 92, 3) := by decide +kernel
theorem dL_act_284 : decode cL_act 284 = .ok (.istore 10, 2) := by decide +kernel
theorem dL_act_286 : decode cL_act 286 = .ok (.aload_n 0, 1) := by decide +kernel
theorem dL_act_287 : decode cL_act 287 = .ok (.bipush 11, 2) := by decide +kernel
theorem dL_act_289 : decode cL_act 289 = .ok (.invokevirtual 43, 3) := by decide +kernel
theorem dL_act_292 : decode cL_act 292 = .ok (.iload 9, 2) := by decide +kernel
theorem dL_act_294 : decode cL_act 294 = .ok (.iload 10, 2) := by decide +kernel
theorem dL_act_296 : decode cL_act 296 = .ok (.iadd, 1) := by decide +kernel
theorem dL_act_297 : decode cL_act 297 = .ok (.if_icmp .ne 45, 3) := by decide +kernel
theorem dL_act_300 : decode cL_act 300 = .ok (.iload 10, 2) := by decide +kernel
theorem dL_act_302 : decode cL_act 302 = .ok (.iconst 1, 1) := by decide +kernel
theorem dL_act_303 : decode cL_act 303 = .ok (.iload_n 1, 1) := by decide +kernel
theorem dL_act_304 : decode cL_act 304 = .ok (.iconst 4, 1) := by decide +kernel
theorem dL_act_305 : decode cL_act 305 = .ok (.ishr, 1) := by decide +kernel
theorem dL_act_306 : decode cL_act 306 = .ok (.bipush 9, 2) := by decide +kernel
theorem dL_act_308 : decode cL_act 308 = .ok (.invokestatic 25, 3) := by decide +kernel
theorem dL_act_311 : decode cL_act 311 = .ok (.iadd, 1) := by decide +kernel
theorem dL_act_312 : decode cL_act 312 = .ok (.if_icmp .gt 30, 3) := by decide +kernel
theorem dL_act_315 : decode cL_act 315 = .ok (.iload 10, 2) := by decide +kernel
theorem dL_act_317 : decode cL_act 317 = .ok (.iconst 1, 1) := by decide +kernel
theorem dL_act_318 : decode cL_act 318 = .ok (.iload_n 1, 1) := by decide +kernel
theorem dL_act_319 : decode cL_act 319 = .ok (.iconst 4, 1) := by decide +kernel
theorem dL_act_320 : decode cL_act 320 = .ok (.ishr, 1) := by decide +kernel
theorem dL_act_321 : decode cL_act 321 = .ok (.bipush 9, 2) := by decide +kernel
theorem dL_act_323 : decode cL_act 323 = .ok (.invokestatic 25, 3) := by decide +kernel
theorem dL_act_326 : decode cL_act 326 = .ok (.iadd, 1) := by decide +kernel
theorem dL_act_327 : decode cL_act 327 = .ok (.if_icmp .eq 11, 3) := by decide +kernel
theorem dL_act_330 : decode cL_act 330 = .ok (.aload_n 0, 1) := by decide +kernel
theorem dL_act_331 : decode cL_act 331 = .ok (.iconst 2, 1) := by decide +kernel
theorem dL_act_332 : decode cL_act 332 = .ok (.invokevirtual 43, 3) := by decide +kernel
theorem dL_act_335 : decode cL_act 335 = .ok (.ifCond .ne 7, 3) := by decide +kernel
theorem dL_act_338 : decode cL_act 338 = .ok (.iconst 1, 1) := by decide +kernel
theorem dL_act_339 : decode cL_act 339 = .ok (.goto 4, 3) := by decide +kernel
theorem dL_act_342 : decode cL_act 342 = .ok (.iconst 0, 1) := by decide +kernel
theorem dL_act_343 : decode cL_act 343 = .ok (.ireturn, 1) := by decide +kernel
theorem dL_act_344 : decode cL_act 344 = .ok (.astore_n 3, 1) := by decide +kernel
theorem dL_act_345 : decode cL_act 345 = .ok (.iload_n 1, 1) := by decide +kernel
theorem dL_act_346 : decode cL_act 346 = .ok (.bipush 9, 2) := by decide +kernel
theorem dL_act_348 : decode cL_act 348 = .ok (.invokestatic 25, 3) := by decide +kernel
theorem dL_act_351 : decode cL_act 351 = .ok (.iconst 2, 1) := by decide +kernel
theorem dL_act_352 : decode cL_act 352 = .ok (.if_icmp .ne 16, 3) := by decide +kernel
theorem dL_act_355 : decode cL_act 355 = .ok (.aload_n 0, 1) := by decide +kernel
theorem dL_act_356 : decode cL_act 356 = .ok (.bipush 7, 2) := by decide +kernel
theorem dL_act_358 : decode cL_act 358 = .ok (.invokevirtual 43, 3) := by decide +kernel
theorem dL_act_361 : decode cL_act 361 = .ok (.ifCond .ne 7, 3) := by decide +kernel
theorem dL_act_364 : decode cL_act 364 = .ok (.iconst 1, 1) := by decide +kernel
theorem dL_act_365 : decode cL_act 365 = .ok (.goto 4, 3) := by decide +kernel
theorem dL_act_368 : decode cL_act 368 = .ok (.iconst 0, 1) := by decide +kernel
theorem dL_act_369 : decode cL_act 369 = .ok (.ireturn, 1) := by decide +kernel
theorem dL_act_370 : decode cL_act 370 = .ok (.astore_n 3, 1) := by decide +kernel
theorem dL_act_371 : decode cL_act 371 = .ok (.iload_n 1, 1) := by decide +kernel
theorem dL_act_372 : decode cL_act 372 = .ok (.bipush 9, 2) := by decide +kernel
theorem dL_act_374 : decode cL_act 374 = .ok (.invokestatic 25, 3) := by decide +kernel
theorem dL_act_377 : decode cL_act 377 = .ok (.iconst 2, 1) := by decide +kernel
theorem dL_act_378 : decode cL_act 378 = .ok (.if_icmp .ge 13, 3) := by decide +kernel
theorem dL_act_381 : decode cL_act 381 = .ok (.iload_n 2, 1) := by decide +kernel
theorem dL_act_382 : decode cL_act 382 = .ok (.bipush 24, 2) := by decide +kernel
theorem dL_act_384 : decode cL_act 384 = .ok (.if_icmp .ne 7, 3) := by decide +kernel
theorem dL_act_387 : decode cL_act 387 = .ok (.iconst 1, 1) := by decide +kernel
theorem dL_act_388 : decode cL_act 388 = .ok (.goto 4, 3) := by decide +kernel
theorem dL_act_391 : decode cL_act 391 = .ok (.iconst 0, 1) := by decide +kernel
theorem dL_act_392 : decode cL_act 392 = .ok (.ireturn, 1) := by decide +kernel
set_option maxRecDepth 20000 in
theorem ggL_areTasksRight_X8_many : GoodIn wsL_areTasksRight wsX8_many := goodIn_ca (goodIn_r _ [11, 12, 13, 14, 10, 15, 16, 17, 18, 19, 20, 21, 22, 23, 24, 25, 26, 27, 28, 29, 30, 31, 32, 33, 34, 35, 36, 37, 38, 39, 40, 41, 42, 43, 44, 45, 46, 47, 48, 49, 50, 51, 52, 53, 141, 142, 143, 144, 145, 146, 147, 148, 149, 150, 151, 152, 153, 154, 155, 156, 157, 158, 159, 160, 161, 162, 163, 164, 165, 166, 167, 168, 169, 170, 171, 172, 173, 174, 175, 176, 177, 178, 179, 180, 181, 182, 183, 184, 185, 186, 187, 188, 189, 190, 191, 192, 193, 194, 195, 196, 197] (by decide +kernel) (by decide +kernel)) (goodIn_sub (fun _ h => List.mem_cons_of_mem _ (List.mem_append_left _ (List.mem_append_right _ h))) (by decide +kernel))
set_option maxRecDepth 20000 in
theorem gL_areTasksRight_X8_many : GoodIn wsL_areTasksRight (wsV RL 43 RX8 yX8_many wsX8_many) := goodIn_app (goodIn_of _ (by decide +kernel)) ggL_areTasksRight_X8_many
set_option maxRecDepth 20000 in
theorem ggL_areTasksRight_X8_ofTask : GoodIn wsL_areTasksRight wsX8_ofTask := goodIn_ca (goodIn_ca (goodIn_r _ [57, 58, 59, 12, 60, 61, 10, 62, 63, 64, 13, 14, 15, 16, 17, 65, 66, 67, 21, 68, 25, 69, 36, 70, 71, 72, 73, 74, 75, 76, 77, 78, 79, 80, 81, 82, 83, 84, 85, 86, 87, 88, 89, 90, 91, 92, 93, 94, 95, 96, 97, 98, 99, 100, 101, 102, 103, 104, 141, 142, 143, 144, 145, 146, 147, 155, 156, 157, 158, 159, 160, 161, 162, 163, 164, 165, 166, 148, 149, 167, 168, 169, 170, 171, 172, 173, 174, 175, 176, 177, 178, 179, 180, 181, 182, 183, 184, 185, 186, 187, 188, 189, 190, 191, 192, 193, 194, 195, 196, 197] (by decide +kernel) (by decide +kernel)) (goodIn_sub (fun _ h => List.mem_cons_of_mem _ (List.mem_append_right _ h)) (by decide +kernel))) (goodIn_sub (fun _ h => List.mem_cons_of_mem _ (List.mem_append_left _ (List.mem_append_right _ h))) (by decide +kernel))
set_option maxRecDepth 20000 in
theorem gL_areTasksRight_X8_ofTask : GoodIn wsL_areTasksRight (wsV RL 47 RX8 yX8_ofTask wsX8_ofTask) := goodIn_app (goodIn_of _ (by decide +kernel)) ggL_areTasksRight_X8_ofTask
set_option maxRecDepth 20000 in
theorem ggL_areTasksRight_X8_ofScope : GoodIn wsL_areTasksRight wsX8_ofScope := goodIn_ca (goodIn_ca (goodIn_r _ [108, 58, 109, 12, 60, 61, 10, 62, 63, 64, 13, 14, 15, 16, 17, 110, 111, 112, 21, 113, 25, 114, 52, 53, 115, 116, 117, 118, 119, 120, 121, 122, 123, 78, 124, 100, 141, 142, 143, 144, 145, 146, 147, 155, 156, 157, 158, 159, 160, 161, 162, 163, 164, 165, 166, 148, 149, 184, 185, 186, 187, 188, 189, 190, 191, 192, 193, 194, 195, 196, 197] (by decide +kernel) (by decide +kernel)) (goodIn_sub (fun _ h => List.mem_cons_of_mem _ (List.mem_append_right _ h)) (by decide +kernel))) (goodIn_sub (fun _ h => List.mem_cons_of_mem _ (List.mem_append_left _ (List.mem_append_right _ h))) (by decide +kernel))
set_option maxRecDepth 20000 in
theorem gL_areTasksRight_X8_ofScope : GoodIn wsL_areTasksRight (wsV RL 50 RX8 yX8_ofScope wsX8_ofScope) := goodIn_app (goodIn_of _ (by decide +kernel)) ggL_areTasksRight_X8_ofScope
set_option maxRecDepth 20000 in
theorem ggL_areTasksRight_X8_stuck : GoodIn wsL_areTasksRight wsX8_stuck := goodIn_r _ [128, 12, 129, 130, 131, 21, 132, 25, 41, 115, 28, 35, 36, 42, 43, 44, 45, 46, 47, 133, 134, 135, 84, 136, 86, 137, 31, 32, 33, 34, 141, 142, 143, 144, 145, 146, 147, 148, 149, 155, 156, 157, 158, 159, 160, 161, 162, 163, 164, 165, 166, 184, 185, 186, 187, 188, 189, 190, 191, 192, 193, 194, 195, 196, 197, 167, 168, 169, 170, 171, 172, 173, 174, 175, 176, 177, 178, 179, 180, 181, 182, 183] (by decide +kernel) (by decide +kernel)
set_option maxRecDepth 20000 in
theorem gL_areTasksRight_X8_stuck : GoodIn wsL_areTasksRight (wsV RL 106 RX8 yX8_stuck wsX8_stuck) := goodIn_app (goodIn_of _ (by decide +kernel)) ggL_areTasksRight_X8_stuck
theorem dL_areTasksRight_0 : decode cL_areTasksRight 0 = .ok (.iconst 5, 1) := by decide +kernel
theorem dL_areTasksRight_1 : decode cL_areTasksRight 1 = .ok (.newarray .int, 2) := by decide +kernel
theorem dL_areTasksRight_3 : decode cL_areTasksRight 3 = .ok (.astore_n 2, 1) := by decide +kernel
theorem dL_areTasksRight_4 : decode cL_areTasksRight 4 = .ok (.bipush 24, 2) := by decide +kernel
theorem dL_areTasksRight_6 : decode cL_areTasksRight 6 = .ok (.newarray .boolean, 2) := by decide +kernel
theorem dL_areTasksRight_8 : decode cL_areTasksRight 8 = .ok (.astore_n 3, 1) := by decide +kernel
theorem dL_areTasksRight_9 : decode cL_areTasksRight 9 = .ok (.bipush 19, 2) := by decide +kernel
theorem dL_areTasksRight_11 : decode cL_areTasksRight 11 = .ok (.newarray .int, 2) := by decide +kernel
theorem dL_areTasksRight_13 : decode cL_areTasksRight 13 = .ok (.dup, 1) := by decide +kernel
theorem dL_areTasksRight_14 : decode cL_areTasksRight 14 = .ok (.iconst 0, 1) := by decide +kernel
theorem dL_areTasksRight_15 : decode cL_areTasksRight 15 = .ok (.iconst 0, 1) := by decide +kernel
theorem dL_areTasksRight_16 : decode cL_areTasksRight 16 = .ok (.iastore, 1) := by decide +kernel
theorem dL_areTasksRight_17 : decode cL_areTasksRight 17 = .ok (.dup, 1) := by decide +kernel
theorem dL_areTasksRight_18 : decode cL_areTasksRight 18 = .ok (.iconst 1, 1) := by decide +kernel
theorem dL_areTasksRight_19 : decode cL_areTasksRight 19 = .ok (.iconst 0, 1) := by decide +kernel
theorem dL_areTasksRight_20 : decode cL_areTasksRight 20 = .ok (.iastore, 1) := by decide +kernel
theorem dL_areTasksRight_21 : decode cL_areTasksRight 21 = .ok (.dup, 1) := by decide +kernel
theorem dL_areTasksRight_22 : decode cL_areTasksRight 22 = .ok (.iconst 2, 1) := by decide +kernel
theorem dL_areTasksRight_23 : decode cL_areTasksRight 23 = .ok (.iconst 0, 1) := by decide +kernel
theorem dL_areTasksRight_24 : decode cL_areTasksRight 24 = .ok (.iastore, 1) := by decide +kernel
theorem dL_areTasksRight_25 : decode cL_areTasksRight 25 = .ok (.dup, 1) := by decide +kernel
theorem dL_areTasksRight_26 : decode cL_areTasksRight 26 = .ok (.iconst 3, 1) := by decide +kernel
theorem dL_areTasksRight_27 : decode cL_areTasksRight 27 = .ok (.iconst 0, 1) := by decide +kernel
theorem dL_areTasksRight_28 : decode cL_areTasksRight 28 = .ok (.iastore, 1) := by decide +kernel
theorem dL_areTasksRight_29 : decode cL_areTasksRight 29 = .ok (.dup, 1) := by decide +kernel
theorem dL_areTasksRight_30 : decode cL_areTasksRight 30 = .ok (.iconst 4, 1) := by decide +kernel
theorem dL_areTasksRight_31 : decode cL_areTasksRight 31 = .ok (.iconst 0, 1) := by decide +kernel
theorem dL_areTasksRight_32 : decode cL_areTasksRight 32 = .ok (.iastore, 1) := by decide +kernel
theorem dL_areTasksRight_33 : decode cL_areTasksRight 33 = .ok (.dup, 1) := by decide +kernel
theorem dL_areTasksRight_34 : decode cL_areTasksRight 34 = .ok (.iconst 5, 1) := by decide +kernel
theorem dL_areTasksRight_35 : decode cL_areTasksRight 35 = .ok (.iconst 0, 1) := by decide +kernel
theorem dL_areTasksRight_36 : decode cL_areTasksRight 36 = .ok (.iastore, 1) := by decide +kernel
theorem dL_areTasksRight_37 : decode cL_areTasksRight 37 = .ok (.dup, 1) := by decide +kernel
theorem dL_areTasksRight_38 : decode cL_areTasksRight 38 = .ok (.bipush 6, 2) := by decide +kernel
theorem dL_areTasksRight_40 : decode cL_areTasksRight 40 = .ok (.iconst 0, 1) := by decide +kernel
theorem dL_areTasksRight_41 : decode cL_areTasksRight 41 = .ok (.iastore, 1) := by decide +kernel
theorem dL_areTasksRight_42 : decode cL_areTasksRight 42 = .ok (.dup, 1) := by decide +kernel
theorem dL_areTasksRight_43 : decode cL_areTasksRight 43 = .ok (.bipush 7, 2) := by decide +kernel
theorem dL_areTasksRight_45 : decode cL_areTasksRight 45 = .ok (.iconst 0, 1) := by decide +kernel
theorem dL_areTasksRight_46 : decode cL_areTasksRight 46 = .ok (.iastore, 1) := by decide +kernel
theorem dL_areTasksRight_47 : decode cL_areTasksRight 47 = .ok (.dup, 1) := by decide +kernel
theorem dL_areTasksRight_48 : decode cL_areTasksRight 48 = .ok (.bipush 8, 2) := by decide +kernel
theorem dL_areTasksRight_50 : decode cL_areTasksRight 50 = .ok (.iconst 0, 1) := by decide +kernel
theorem dL_areTasksRight_51 : decode cL_areTasksRight 51 = .ok (.iastore, 1) := by decide +kernel
theorem dL_areTasksRight_52 : decode cL_areTasksRight 52 = .ok (.dup, 1) := by decide +kernel
theorem dL_areTasksRight_53 : decode cL_areTasksRight 53 = .ok (.bipush 9, 2) := by decide +kernel
theorem dL_areTasksRight_55 : decode cL_areTasksRight 55 = .ok (.iconst 0, 1) := by decide +kernel
theorem dL_areTasksRight_56 : decode cL_areTasksRight 56 = .ok (.iastore, 1) := by decide +kernel
theorem dL_areTasksRight_57 : decode cL_areTasksRight 57 = .ok (.dup, 1) := by decide +kernel
theorem dL_areTasksRight_58 : decode cL_areTasksRight 58 = .ok (.bipush 10, 2) := by decide +kernel
theorem dL_areTasksRight_60 : decode cL_areTasksRight 60 = .ok (.iconst 0, 1) := by decide +kernel
theorem dL_areTasksRight_61 : decode cL_areTasksRight 61 = .ok (.iastore, 1) := by decide +kernel
theorem dL_areTasksRight_62 : decode cL_areTasksRight 62 = .ok (.dup, 1) := by decide +kernel
theorem dL_areTasksRight_63 : decode cL_areTasksRight 63 = .ok (.bipush 11, 2) := by decide +kernel
