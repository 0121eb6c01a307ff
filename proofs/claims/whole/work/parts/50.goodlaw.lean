set_option maxRecDepth 20000 in
theorem ggL_law_L_cell : GoodIn wsL_law wsL_cell := goodIn_r _ [10] (by decide +kernel) (by decide +kernel)
set_option maxRecDepth 20000 in
theorem gL_law_L_cell : GoodIn wsL_law (va_wsS RL 9 yL_cell wsL_cell) := goodIn_app (goodIn_of _ (by decide +kernel)) ggL_law_L_cell
set_option maxRecDepth 20000 in
theorem ggL_law_X3_init : GoodIn wsL_law wsX3_init := goodIn_r _ [13, 14, 15, 16, 17, 18, 19, 20, 21, 22, 23, 24, 25, 26, 27, 28, 29, 30, 31, 32, 33, 34, 35, 36, 37, 38, 39, 40, 41, 42, 508, 509, 510, 511, 512, 513, 514, 515, 547, 548, 549, 550, 551, 552, 553] (by decide +kernel) (by decide +kernel)
set_option maxRecDepth 20000 in
theorem gL_law_X3_init : GoodIn wsL_law (wsX3_init) := ggL_law_X3_init
set_option maxRecDepth 20000 in
theorem ggL_law_X4_init : GoodIn wsL_law wsX4_init := goodIn_r _ [45, 46, 15, 16, 25, 47, 48, 27, 49, 50, 51, 52, 53, 54, 55, 56, 57, 58, 59, 60, 61, 62, 63, 64, 65, 66, 67, 68, 69, 70, 71, 72, 73, 74, 516, 517, 518, 519, 520, 521, 522, 523, 524, 525, 526, 527, 528, 529, 530, 531, 532, 533, 534, 535, 536, 537, 538, 539, 540, 541, 542, 543, 544, 545, 546] (by decide +kernel) (by decide +kernel)
set_option maxRecDepth 20000 in
theorem gL_law_X4_init : GoodIn wsL_law (wsX4_init) := ggL_law_X4_init
set_option maxRecDepth 20000 in
theorem ggL_law_X3_ballot : GoodIn wsL_law wsX3_ballot := goodIn_r _ [78, 79, 80, 21, 22, 19, 23, 29, 81, 82, 30, 34, 83, 84, 85, 2, 86, 24, 87, 88, 89, 90, 91, 92, 93, 94, 95, 96, 97, 98, 99, 100, 101, 102, 103, 104, 105, 106, 15, 16, 107, 25, 108, 27, 109, 110, 111, 112, 113, 114, 115, 116, 117, 118, 119, 120, 33, 121, 122, 123, 38, 39, 40, 41, 42, 508, 509, 510, 511, 512, 513, 514, 515, 554, 555, 556, 557, 558, 559, 560, 561, 562, 563, 564, 565, 566, 567, 547, 548, 549, 550, 551, 552, 553] (by decide +kernel) (by decide +kernel)
set_option maxRecDepth 20000 in
theorem gL_law_X3_ballot : GoodIn wsL_law (wsV RL 21 RX3 yX3_ballot wsX3_ballot) := goodIn_app (goodIn_of _ (by decide +kernel)) ggL_law_X3_ballot
set_option maxRecDepth 20000 in
theorem ggL_law_X4_ballot : GoodIn wsL_law wsX4_ballot := goodIn_r _ [127, 74, 128, 53, 54, 55, 56, 129, 130, 131, 5, 132, 133, 134, 135, 136, 137, 138, 65, 66, 67, 68, 70, 69, 48, 71, 49, 516, 517, 518, 519, 520, 521, 522, 523, 524, 525, 526, 527, 528, 529, 530, 531, 532, 533, 534, 535, 536, 537, 538, 539, 540, 541, 542, 543, 544, 545, 546] (by decide +kernel) (by decide +kernel)
set_option maxRecDepth 20000 in
theorem gL_law_X4_ballot : GoodIn wsL_law (wsV RL 25 RX4 yX4_ballot wsX4_ballot) := goodIn_app (goodIn_of _ (by decide +kernel)) ggL_law_X4_ballot
set_option maxRecDepth 20000 in
theorem ggL_law_X3_propose : GoodIn wsL_law wsX3_propose := goodIn_r _ [142, 143, 144, 145, 98, 99, 100, 101, 2, 102, 79, 30, 146, 147, 148, 149, 150, 151, 82, 152, 153, 154, 155, 156, 157, 158, 24, 34, 159, 118, 119, 120, 33, 121, 122, 123, 38, 39, 40, 41, 42, 87, 88, 89, 90, 91, 92, 93, 554, 555, 556, 557, 558, 559, 560, 561, 562, 563, 564, 565, 566, 567, 508, 509, 510, 511, 512, 513, 514, 515, 547, 548, 549, 550, 551, 552, 553] (by decide +kernel) (by decide +kernel)
set_option maxRecDepth 20000 in
theorem gL_law_X3_propose : GoodIn wsL_law (wsV RL 28 RX3 yX3_propose wsX3_propose) := goodIn_app (goodIn_of _ (by decide +kernel)) ggL_law_X3_propose
set_option maxRecDepth 20000 in
theorem ggL_law_X4_propose : GoodIn wsL_law wsX4_propose := goodIn_r _ [163, 52, 58, 59, 64, 164, 165, 166, 5, 167, 128, 168, 169, 170, 171, 172, 173, 174, 74, 53, 62, 133, 134, 135, 136, 137, 138, 65, 66, 67, 68, 70, 69, 48, 71, 49, 516, 517, 518, 519, 520, 521, 522, 523, 524, 525, 526, 527, 528, 529, 530, 531, 532, 533, 534, 535, 536, 537, 538, 539, 540, 541, 542, 543, 544, 545, 546] (by decide +kernel) (by decide +kernel)
set_option maxRecDepth 20000 in
theorem gL_law_X4_propose : GoodIn wsL_law (wsV RL 32 RX4 yX4_propose wsX4_propose) := goodIn_app (goodIn_of _ (by decide +kernel)) ggL_law_X4_propose
set_option maxRecDepth 20000 in
theorem ggL_law_X3_again : GoodIn wsL_law wsX3_again := goodIn_r _ [178, 143, 34, 159, 179, 180, 99, 100, 101, 2, 102, 79, 30, 118, 119, 120, 33, 121, 122, 123, 38, 39, 40, 41, 42, 155, 156, 157, 158, 24, 87, 88, 89, 90, 91, 92, 93, 181, 182, 183, 184, 98, 185, 149, 150, 151, 82, 152, 153, 154, 186, 187, 188, 189, 110, 115, 147, 148, 190, 554, 555, 556, 557, 558, 559, 560, 561, 562, 563, 564, 565, 566, 567, 508, 509, 510, 511, 512, 513, 514, 515, 547, 548, 549, 550, 551, 552, 553] (by decide +kernel) (by decide +kernel)
set_option maxRecDepth 20000 in
theorem gL_law_X3_again : GoodIn wsL_law (wsV RL 33 RX3 yX3_again wsX3_again) := goodIn_app (goodIn_of _ (by decide +kernel)) ggL_law_X3_again
set_option maxRecDepth 20000 in
theorem ggL_law_X4_again : GoodIn wsL_law wsX4_again := goodIn_r _ [194, 52, 58, 59, 60, 164, 165, 166, 5, 167, 128, 133, 134, 135, 136, 137, 138, 65, 66, 67, 68, 70, 69, 48, 71, 49, 195, 196, 197, 198, 74, 57, 199, 200, 201, 202, 53, 203, 204, 205, 206, 56, 171, 172, 173, 174, 62, 64, 516, 517, 518, 519, 520, 521, 522, 523, 524, 525, 526, 527, 528, 529, 530, 531, 532, 533, 534, 535, 536, 537, 538, 539, 540, 541, 542, 543, 544, 545, 546] (by decide +kernel) (by decide +kernel)
set_option maxRecDepth 20000 in
theorem gL_law_X4_again : GoodIn wsL_law (wsV RL 37 RX4 yX4_again wsX4_again) := goodIn_app (goodIn_of _ (by decide +kernel)) ggL_law_X4_again
set_option maxRecDepth 20000 in
theorem ggL_law_X3_deliver : GoodIn wsL_law wsX3_deliver := goodIn_r _ [210, 34, 211, 212, 213, 33, 214, 122, 215, 216, 217, 2, 218, 219, 220, 221, 222, 223, 224, 225, 226, 227, 228, 99, 100, 101, 102, 79, 30, 229, 230, 231, 232, 38, 233, 234, 235, 236, 39, 40, 41, 42, 237, 238, 239, 240, 241, 143, 179, 155, 156, 157, 158, 24, 159, 118, 119, 120, 121, 123, 87, 88, 89, 90, 91, 92, 93, 242, 243, 244, 245, 246, 247, 248, 249, 250, 251, 21, 22, 19, 23, 98, 180, 252, 181, 182, 183, 184, 185, 149, 150, 151, 82, 152, 153, 154, 186, 187, 188, 189, 110, 115, 147, 148, 190, 253, 254, 255, 256, 257, 258, 259, 260, 261, 26, 28, 262, 263, 264, 265, 266, 267, 268, 269, 270, 271, 272, 273, 274, 145, 275, 276, 277, 278, 279, 280, 281, 282, 283, 284, 146, 285, 286, 287, 288, 289, 290, 291, 292, 293, 294, 295, 296, 80, 297, 298, 299, 300, 508, 509, 510, 511, 512, 513, 514, 515, 547, 548, 549, 550, 551, 552, 553, 554, 555, 556, 557, 558, 559, 560, 561, 562, 563, 564, 565, 566, 567] (by decide +kernel) (by decide +kernel)
set_option maxRecDepth 20000 in
theorem gL_law_X3_deliver : GoodIn wsL_law (wsV RL 38 RX3 yX3_deliver wsX3_deliver) := goodIn_app (goodIn_of _ (by decide +kernel)) ggL_law_X3_deliver
set_option maxRecDepth 20000 in
theorem ggL_law_X4_deliver : GoodIn wsL_law wsX4_deliver := goodIn_r _ [304, 137, 65, 66, 67, 68, 70, 72, 69, 73, 71, 52, 129, 56, 305, 306, 307, 5, 308, 51, 309, 310, 311, 312, 313, 314, 315, 316, 317, 318, 319, 320, 195, 196, 197, 198, 74, 57, 199, 200, 201, 202, 53, 203, 204, 205, 206, 133, 134, 135, 136, 138, 48, 49, 321, 322, 323, 324, 54, 130, 131, 132, 325, 326, 327, 328, 58, 171, 172, 173, 174, 62, 64, 329, 330, 331, 332, 60, 333, 334, 335, 336, 337, 338, 339, 340, 47, 341, 342, 343, 344, 61, 345, 346, 347, 348, 63, 349, 350, 351, 352, 55, 516, 517, 518, 519, 520, 521, 522, 523, 524, 525, 526, 527, 528, 529, 530, 531, 532, 533, 534, 535, 536, 537, 538, 539, 540, 541, 542, 543, 544, 545, 546] (by decide +kernel) (by decide +kernel)
set_option maxRecDepth 20000 in
theorem gL_law_X4_deliver : GoodIn wsL_law (wsV RL 42 RX4 yX4_deliver wsX4_deliver) := goodIn_app (goodIn_of _ (by decide +kernel)) ggL_law_X4_deliver
set_option maxRecDepth 20000 in
theorem ggL_law_X3_settle : GoodIn wsL_law wsX3_settle := goodIn_r _ [356, 357, 358, 359, 2, 360, 34, 361, 215, 216, 217, 218, 219, 220, 221, 222, 223, 224, 225, 226, 227, 228, 99, 100, 101, 102, 79, 30, 229, 230, 231, 33, 232, 122, 38, 233, 234, 235, 236, 39, 40, 41, 42, 237, 212, 213, 214, 238, 239, 240, 241, 143, 179, 155, 156, 157, 158, 24, 159, 118, 119, 120, 121, 123, 87, 88, 89, 90, 91, 92, 93, 242, 243, 244, 245, 246, 247, 248, 249, 250, 251, 21, 22, 19, 23, 98, 180, 252, 181, 182, 183, 184, 185, 149, 150, 151, 82, 152, 153, 154, 186, 187, 188, 189, 110, 115, 147, 148, 190, 253, 254, 255, 256, 257, 258, 259, 260, 261, 26, 28, 262, 263, 264, 265, 266, 267, 268, 269, 270, 271, 272, 273, 274, 145, 275, 276, 277, 278, 279, 280, 281, 282, 283, 284, 146, 285, 286, 287, 288, 289, 290, 291, 292, 293, 294, 295, 296, 80, 297, 298, 299, 300, 508, 509, 510, 511, 512, 513, 514, 515, 547, 548, 549, 550, 551, 552, 553, 554, 555, 556, 557, 558, 559, 560, 561, 562, 563, 564, 565, 566, 567] (by decide +kernel) (by decide +kernel)
set_option maxRecDepth 20000 in
theorem gL_law_X3_settle : GoodIn wsL_law (wsV RL 43 RX3 yX3_settle wsX3_settle) := goodIn_app (goodIn_of _ (by decide +kernel)) ggL_law_X3_settle
set_option maxRecDepth 20000 in
theorem ggL_law_X4_settle : GoodIn wsL_law wsX4_settle := goodIn_r _ [365, 137, 305, 306, 307, 5, 308, 65, 51, 67, 366, 302, 303, 304, 66, 68, 70, 72, 69, 73, 71, 52, 129, 56, 309, 310, 311, 312, 313, 314, 315, 316, 317, 318, 319, 320, 195, 196, 197, 198, 74, 57, 199, 200, 201, 202, 53, 203, 204, 205, 206, 133, 134, 135, 136, 138, 48, 49, 321, 322, 323, 324, 54, 130, 131, 132, 325, 326, 327, 328, 58, 171, 172, 173, 174, 62, 64, 329, 330, 331, 332, 60, 333, 334, 335, 336, 337, 338, 339, 340, 47, 341, 342, 343, 344, 61, 345, 346, 347, 348, 63, 349, 350, 351, 352, 55, 516, 517, 518, 519, 520, 521, 522, 523, 524, 525, 526, 527, 528, 529, 530, 531, 532, 533, 534, 535, 536, 537, 538, 539, 540, 541, 542, 543, 544, 545, 546] (by decide +kernel) (by decide +kernel)
set_option maxRecDepth 20000 in
theorem gL_law_X4_settle : GoodIn wsL_law (wsV RL 46 RX4 yX4_settle wsX4_settle) := goodIn_app (goodIn_of _ (by decide +kernel)) ggL_law_X4_settle
set_option maxRecDepth 20000 in
theorem ggL_law_X3_lose : GoodIn wsL_law wsX3_lose := goodIn_r _ [370, 34, 211, 212, 213, 33, 214, 122, 229, 230, 231, 232, 38, 233, 234, 235, 236, 39, 40, 41, 42, 237, 508, 509, 510, 511, 512, 513, 514, 515, 547, 548, 549, 550, 551, 552, 553] (by decide +kernel) (by decide +kernel)
set_option maxRecDepth 20000 in
theorem gL_law_X3_lose : GoodIn wsL_law (wsV RL 47 RX3 yX3_lose wsX3_lose) := goodIn_app (goodIn_of _ (by decide +kernel)) ggL_law_X3_lose
set_option maxRecDepth 20000 in
theorem ggL_law_X4_lose : GoodIn wsL_law wsX4_lose := goodIn_r _ [374, 137, 309, 310, 311, 5, 312, 313, 314, 315, 316, 65, 66, 67, 68, 70, 69, 71, 516, 517, 518, 519, 520, 521, 522, 523, 524, 525, 526, 527, 528, 529, 530, 531, 532, 533, 534, 535, 536, 537, 538, 539, 540, 541, 542, 543, 544, 545, 546] (by decide +kernel) (by decide +kernel)
set_option maxRecDepth 20000 in
theorem gL_law_X4_lose : GoodIn wsL_law (wsV RL 50 RX4 yX4_lose wsX4_lose) := goodIn_app (goodIn_of _ (by decide +kernel)) ggL_law_X4_lose
set_option maxRecDepth 20000 in
theorem ggL_law_X3_twice : GoodIn wsL_law wsX3_twice := goodIn_r _ [378, 34, 361, 211, 212, 213, 33, 214, 122, 379, 380, 381, 382, 38, 39, 40, 41, 42, 237, 383, 119, 120, 121, 123, 508, 509, 510, 511, 512, 513, 514, 515, 547, 548, 549, 550, 551, 552, 553] (by decide +kernel) (by decide +kernel)
set_option maxRecDepth 20000 in
theorem gL_law_X3_twice : GoodIn wsL_law (wsV RL 51 RX3 yX3_twice wsX3_twice) := goodIn_app (goodIn_of _ (by decide +kernel)) ggL_law_X3_twice
set_option maxRecDepth 20000 in
theorem ggL_law_X4_twice : GoodIn wsL_law wsX4_twice := goodIn_r _ [387, 137, 313, 314, 315, 5, 316, 65, 66, 67, 68, 70, 69, 71, 516, 517, 518, 519, 520, 521, 522, 523, 524, 525, 526, 527, 528, 529, 530, 531, 532, 533, 534, 535, 536, 537, 538, 539, 540, 541, 542, 543, 544, 545, 546] (by decide +kernel) (by decide +kernel)
set_option maxRecDepth 20000 in
theorem gL_law_X4_twice : GoodIn wsL_law (wsV RL 54 RX4 yX4_twice wsX4_twice) := goodIn_app (goodIn_of _ (by decide +kernel)) ggL_law_X4_twice
set_option maxRecDepth 20000 in
theorem ggL_law_X3_silent : GoodIn wsL_law wsX3_silent := goodIn_r _ [391, 220, 262, 263, 264, 2, 265, 24, 508, 509, 510, 511, 512, 513, 514, 515] (by decide +kernel) (by decide +kernel)
set_option maxRecDepth 20000 in
theorem gL_law_X3_silent : GoodIn wsL_law (wsV RL 55 RX3 yX3_silent wsX3_silent) := goodIn_app (goodIn_of _ (by decide +kernel)) ggL_law_X3_silent
set_option maxRecDepth 20000 in
theorem ggL_law_X4_silent : GoodIn wsL_law wsX4_silent := goodIn_r _ [395, 51, 396, 397, 398, 5, 399, 74, 516, 517, 518, 519, 520, 521, 522, 523, 524, 525, 526, 527, 528, 529, 530, 531, 532, 533, 534, 535, 536, 537, 538, 539, 540, 541, 542, 543, 544, 545, 546] (by decide +kernel) (by decide +kernel)
set_option maxRecDepth 20000 in
theorem gL_law_X4_silent : GoodIn wsL_law (wsV RL 59 RX4 yX4_silent wsX4_silent) := goodIn_app (goodIn_of _ (by decide +kernel)) ggL_law_X4_silent
set_option maxRecDepth 20000 in
theorem ggL_law_X3_promise : GoodIn wsL_law wsX3_promise := goodIn_r _ [403, 26, 262, 263, 264, 2, 265, 24, 508, 509, 510, 511, 512, 513, 514, 515] (by decide +kernel) (by decide +kernel)
set_option maxRecDepth 20000 in
theorem gL_law_X3_promise : GoodIn wsL_law (wsV RL 60 RX3 yX3_promise wsX3_promise) := goodIn_app (goodIn_of _ (by decide +kernel)) ggL_law_X3_promise
set_option maxRecDepth 20000 in
theorem ggL_law_X4_promise : GoodIn wsL_law wsX4_promise := goodIn_r _ [407, 47, 396, 397, 398, 5, 399, 74, 516, 517, 518, 519, 520, 521, 522, 523, 524, 525, 526, 527, 528, 529, 530, 531, 532, 533, 534, 535, 536, 537, 538, 539, 540, 541, 542, 543, 544, 545, 546] (by decide +kernel) (by decide +kernel)
set_option maxRecDepth 20000 in
theorem gL_law_X4_promise : GoodIn wsL_law (wsV RL 63 RX4 yX4_promise wsX4_promise) := goodIn_app (goodIn_of _ (by decide +kernel)) ggL_law_X4_promise
set_option maxRecDepth 20000 in
theorem ggL_law_X3_vote : GoodIn wsL_law wsX3_vote := goodIn_r _ [411, 28, 262, 263, 264, 2, 265, 24, 146, 147, 148, 275, 276, 277, 278, 279, 508, 509, 510, 511, 512, 513, 514, 515] (by decide +kernel) (by decide +kernel)
set_option maxRecDepth 20000 in
theorem gL_law_X3_vote : GoodIn wsL_law (wsV RL 64 RX3 yX3_vote wsX3_vote) := goodIn_app (goodIn_of _ (by decide +kernel)) ggL_law_X3_vote
set_option maxRecDepth 20000 in
theorem ggL_law_X4_vote : GoodIn wsL_law wsX4_vote := goodIn_r _ [415, 48, 396, 397, 398, 5, 399, 74, 168, 169, 170, 516, 517, 518, 519, 520, 521, 522, 523, 524, 525, 526, 527, 528, 529, 530, 531, 532, 533, 534, 535, 536, 537, 538, 539, 540, 541, 542, 543, 544, 545, 546] (by decide +kernel) (by decide +kernel)
set_option maxRecDepth 20000 in
theorem gL_law_X4_vote : GoodIn wsL_law (wsV RL 68 RX4 yX4_vote wsX4_vote) := goodIn_app (goodIn_of _ (by decide +kernel)) ggL_law_X4_vote
set_option maxRecDepth 20000 in
theorem ggL_law_X3_value : GoodIn wsL_law wsX3_value := goodIn_r _ [419, 28, 145, 262, 263, 264, 2, 265, 24, 146, 147, 148, 275, 276, 277, 278, 279, 99, 100, 101, 102, 79, 30, 508, 509, 510, 511, 512, 513, 514, 515, 554, 555, 556, 557, 558, 559, 560, 561, 562, 563, 564, 565, 566, 567] (by decide +kernel) (by decide +kernel)
set_option maxRecDepth 20000 in
theorem gL_law_X3_value : GoodIn wsL_law (wsV RL 69 RX3 yX3_value wsX3_value) := goodIn_app (goodIn_of _ (by decide +kernel)) ggL_law_X3_value
set_option maxRecDepth 20000 in
theorem ggL_law_X4_value : GoodIn wsL_law wsX4_value := goodIn_r _ [423, 49, 396, 397, 398, 5, 399, 74, 168, 169, 170, 516, 517, 518, 519, 520, 521, 522, 523, 524, 525, 526, 527, 528, 529, 530, 531, 532, 533, 534, 535, 536, 537, 538, 539, 540, 541, 542, 543, 544, 545, 546] (by decide +kernel) (by decide +kernel)
set_option maxRecDepth 20000 in
theorem gL_law_X4_value : GoodIn wsL_law (wsV RL 73 RX4 yX4_value wsX4_value) := goodIn_app (goodIn_of _ (by decide +kernel)) ggL_law_X4_value
set_option maxRecDepth 20000 in
theorem ggL_law_X3_of : GoodIn wsL_law wsX3_of := goodIn_r _ [427, 143, 98, 252, 428, 251, 180, 246, 144, 99, 100, 101, 2, 102, 79, 30, 253, 254, 255, 82, 256, 257, 187, 188, 189, 110, 115, 147, 148, 190, 88, 89, 90, 91, 92, 93, 554, 555, 556, 557, 558, 559, 560, 561, 562, 563, 564, 565, 566, 567, 508, 509, 510, 511, 512, 513, 514, 515] (by decide +kernel) (by decide +kernel)
set_option maxRecDepth 20000 in
theorem gL_law_X3_of : GoodIn wsL_law (wsV RL 74 RX3 yX3_of wsX3_of) := goodIn_app (goodIn_of _ (by decide +kernel)) ggL_law_X3_of
set_option maxRecDepth 20000 in
theorem ggL_law_X4_of : GoodIn wsL_law wsX4_of := goodIn_r _ [432, 52, 53, 54, 55, 56, 57, 58, 59, 60, 164, 165, 166, 5, 167, 128, 516, 517, 518, 519, 520, 521, 522, 523, 524, 525, 526, 527, 528, 529, 530, 531, 532, 533, 534, 535, 536, 537, 538, 539, 540, 541, 542, 543, 544, 545, 546] (by decide +kernel) (by decide +kernel)
set_option maxRecDepth 20000 in
theorem gL_law_X4_of : GoodIn wsL_law (wsV RL 77 RX4 yX4_of wsX4_of) := goodIn_app (goodIn_of _ (by decide +kernel)) ggL_law_X4_of
set_option maxRecDepth 20000 in
theorem ggL_law_X3_answered : GoodIn wsL_law wsX3_answered := goodIn_r _ [436, 185, 99, 100, 101, 2, 102, 79, 30, 146, 147, 148, 554, 555, 556, 557, 558, 559, 560, 561, 562, 563, 564, 565, 566, 567, 508, 509, 510, 511, 512, 513, 514, 515] (by decide +kernel) (by decide +kernel)
set_option maxRecDepth 20000 in
theorem gL_law_X3_answered : GoodIn wsL_law (wsV RL 78 RX3 yX3_answered wsX3_answered) := goodIn_app (goodIn_of _ (by decide +kernel)) ggL_law_X3_answered
set_option maxRecDepth 20000 in
theorem ggL_law_X4_answered : GoodIn wsL_law wsX4_answered := goodIn_r _ [440, 62, 164, 165, 166, 5, 167, 128, 168, 169, 170, 516, 517, 518, 519, 520, 521, 522, 523, 524, 525, 526, 527, 528, 529, 530, 531, 532, 533, 534, 535, 536, 537, 538, 539, 540, 541, 542, 543, 544, 545, 546] (by decide +kernel) (by decide +kernel)
set_option maxRecDepth 20000 in
theorem gL_law_X4_answered : GoodIn wsL_law (wsV RL 81 RX4 yX4_answered wsX4_answered) := goodIn_app (goodIn_of _ (by decide +kernel)) ggL_law_X4_answered
set_option maxRecDepth 20000 in
theorem ggL_law_X3_said : GoodIn wsL_law wsX3_said := goodIn_r _ [444, 145, 99, 100, 101, 2, 102, 79, 30, 146, 147, 148, 554, 555, 556, 557, 558, 559, 560, 561, 562, 563, 564, 565, 566, 567, 508, 509, 510, 511, 512, 513, 514, 515] (by decide +kernel) (by decide +kernel)
set_option maxRecDepth 20000 in
theorem gL_law_X3_said : GoodIn wsL_law (wsV RL 82 RX3 yX3_said wsX3_said) := goodIn_app (goodIn_of _ (by decide +kernel)) ggL_law_X3_said
set_option maxRecDepth 20000 in
theorem ggL_law_X4_said : GoodIn wsL_law wsX4_said := goodIn_r _ [448, 64, 164, 165, 166, 5, 167, 128, 168, 169, 170, 516, 517, 518, 519, 520, 521, 522, 523, 524, 525, 526, 527, 528, 529, 530, 531, 532, 533, 534, 535, 536, 537, 538, 539, 540, 541, 542, 543, 544, 545, 546] (by decide +kernel) (by decide +kernel)
set_option maxRecDepth 20000 in
theorem gL_law_X4_said : GoodIn wsL_law (wsV RL 85 RX4 yX4_said wsX4_said) := goodIn_app (goodIn_of _ (by decide +kernel)) ggL_law_X4_said
set_option maxRecDepth 20000 in
theorem ggL_law_X3_chosen : GoodIn wsL_law wsX3_chosen := goodIn_r _ [452, 159, 453, 454, 455, 2, 456, 79, 146, 147, 148, 99, 100, 101, 102, 30, 457, 458, 459, 82, 460, 111, 115, 190, 88, 89, 90, 91, 92, 93, 554, 555, 556, 557, 558, 559, 560, 561, 562, 563, 564, 565, 566, 567, 508, 509, 510, 511, 512, 513, 514, 515] (by decide +kernel) (by decide +kernel)
set_option maxRecDepth 20000 in
theorem gL_law_X3_chosen : GoodIn wsL_law (wsV RL 86 RX3 yX3_chosen wsX3_chosen) := goodIn_app (goodIn_of _ (by decide +kernel)) ggL_law_X3_chosen
set_option maxRecDepth 20000 in
theorem ggL_law_X4_chosen : GoodIn wsL_law wsX4_chosen := goodIn_r _ [464, 128, 168, 169, 5, 170, 465, 466, 467, 468, 63, 53, 55, 130, 131, 132, 516, 517, 518, 519, 520, 521, 522, 523, 524, 525, 526, 527, 528, 529, 530, 531, 532, 533, 534, 535, 536, 537, 538, 539, 540, 541, 542, 543, 544, 545, 546] (by decide +kernel) (by decide +kernel)
set_option maxRecDepth 20000 in
theorem gL_law_X4_chosen : GoodIn wsL_law (wsV RL 89 RX4 yX4_chosen wsX4_chosen) := goodIn_app (goodIn_of _ (by decide +kernel)) ggL_law_X4_chosen
set_option maxRecDepth 20000 in
theorem ggL_law_X3_chosenValue : GoodIn wsL_law wsX3_chosenValue := goodIn_r _ [472, 145, 453, 454, 455, 2, 456, 79, 146, 147, 148, 99, 100, 101, 102, 30, 457, 458, 459, 82, 460, 111, 115, 190, 88, 89, 90, 91, 92, 93, 554, 555, 556, 557, 558, 559, 560, 561, 562, 563, 564, 565, 566, 567, 508, 509, 510, 511, 512, 513, 514, 515] (by decide +kernel) (by decide +kernel)
set_option maxRecDepth 20000 in
theorem gL_law_X3_chosenValue : GoodIn wsL_law (wsV RL 90 RX3 yX3_chosenValue wsX3_chosenValue) := goodIn_app (goodIn_of _ (by decide +kernel)) ggL_law_X3_chosenValue
set_option maxRecDepth 20000 in
theorem ggL_law_X4_chosenValue : GoodIn wsL_law wsX4_chosenValue := goodIn_r _ [476, 64, 477, 462, 463, 5, 464, 128, 168, 169, 170, 465, 466, 467, 468, 63, 53, 55, 130, 131, 132, 516, 517, 518, 519, 520, 521, 522, 523, 524, 525, 526, 527, 528, 529, 530, 531, 532, 533, 534, 535, 536, 537, 538, 539, 540, 541, 542, 543, 544, 545, 546] (by decide +kernel) (by decide +kernel)
set_option maxRecDepth 20000 in
theorem gL_law_X4_chosenValue : GoodIn wsL_law (wsV RL 94 RX4 yX4_chosenValue wsX4_chosenValue) := goodIn_app (goodIn_of _ (by decide +kernel)) ggL_law_X4_chosenValue
set_option maxRecDepth 20000 in
theorem ggL_law_X3_isOne : GoodIn wsL_law wsX3_isOne := goodIn_r _ [481, 159, 79, 145, 453, 454, 455, 2, 456, 146, 147, 148, 99, 100, 101, 102, 30, 457, 458, 459, 82, 460, 111, 115, 190, 88, 89, 90, 91, 92, 93, 554, 555, 556, 557, 558, 559, 560, 561, 562, 563, 564, 565, 566, 567, 508, 509, 510, 511, 512, 513, 514, 515] (by decide +kernel) (by decide +kernel)
set_option maxRecDepth 20000 in
theorem gL_law_X3_isOne : GoodIn wsL_law (wsV RL 95 RX3 yX3_isOne wsX3_isOne) := goodIn_app (goodIn_of _ (by decide +kernel)) ggL_law_X3_isOne
set_option maxRecDepth 20000 in
theorem ggL_law_X4_isOne : GoodIn wsL_law wsX4_isOne := goodIn_r _ [485, 128, 64, 168, 169, 5, 170, 465, 466, 467, 468, 63, 53, 55, 130, 131, 132, 486, 474, 475, 476, 477, 462, 463, 464, 516, 517, 518, 519, 520, 521, 522, 523, 524, 525, 526, 527, 528, 529, 530, 531, 532, 533, 534, 535, 536, 537, 538, 539, 540, 541, 542, 543, 544, 545, 546] (by decide +kernel) (by decide +kernel)
set_option maxRecDepth 20000 in
theorem gL_law_X4_isOne : GoodIn wsL_law (wsV RL 98 RX4 yX4_isOne wsX4_isOne) := goodIn_app (goodIn_of _ (by decide +kernel)) ggL_law_X4_isOne
set_option maxRecDepth 20000 in
theorem ggL_law_X3_air : GoodIn wsL_law wsX3_air := goodIn_r _ [490, 34, 219, 228, 221, 226, 227, 211, 212, 213, 33, 214, 122, 491, 492, 277, 493, 494, 276, 278, 279, 508, 509, 510, 511, 512, 513, 514, 515, 547, 548, 549, 550, 551, 552, 553] (by decide +kernel) (by decide +kernel)
set_option maxRecDepth 20000 in
theorem gL_law_X3_air : GoodIn wsL_law (wsV RL 99 RX3 yX3_air wsX3_air) := goodIn_app (goodIn_of _ (by decide +kernel)) ggL_law_X3_air
set_option maxRecDepth 20000 in
theorem ggL_law_X4_air : GoodIn wsL_law wsX4_air := goodIn_r _ [498, 137, 65, 66, 67, 68, 69, 516, 517, 518, 519, 520, 521, 522, 523, 524, 525, 526, 527, 528, 529, 530, 531, 532, 533, 534, 535, 536, 537, 538, 539, 540, 541, 542, 543, 544, 545, 546] (by decide +kernel) (by decide +kernel)
set_option maxRecDepth 20000 in
theorem gL_law_X4_air : GoodIn wsL_law (wsV RL 102 RX4 yX4_air wsX4_air) := goodIn_app (goodIn_of _ (by decide +kernel)) ggL_law_X4_air
set_option maxRecDepth 20000 in
theorem ggL_law_X3_about : GoodIn wsL_law wsX3_about := goodIn_r _ [502, 24, 79, 80, 34, 361, 503, 508, 509, 510, 511, 512, 513, 514, 515, 547, 548, 549, 550, 551, 552, 553] (by decide +kernel) (by decide +kernel)
set_option maxRecDepth 20000 in
theorem gL_law_X3_about : GoodIn wsL_law (wsV RL 103 RX3 yX3_about wsX3_about) := goodIn_app (goodIn_of _ (by decide +kernel)) ggL_law_X3_about
set_option maxRecDepth 20000 in
theorem ggL_law_X4_about : GoodIn wsL_law wsX4_about := goodIn_r _ [507, 74, 128, 129, 137, 138, 516, 517, 518, 519, 520, 521, 522, 523, 524, 525, 526, 527, 528, 529, 530, 531, 532, 533, 534, 535, 536, 537, 538, 539, 540, 541, 542, 543, 544, 545, 546] (by decide +kernel) (by decide +kernel)
set_option maxRecDepth 20000 in
theorem gL_law_X4_about : GoodIn wsL_law (wsV RL 106 RX4 yX4_about wsX4_about) := goodIn_app (goodIn_of _ (by decide +kernel)) ggL_law_X4_about
