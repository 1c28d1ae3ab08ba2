set_option maxRecDepth 20000 in
theorem ggL_law_X2_init : GoodIn wsL_law wsX2_init := goodIn_r _ [6, 7, 8, 9, 10, 11, 12, 13, 14, 15, 16, 17, 18, 19, 20, 21, 22, 23, 24, 25, 26, 27, 28, 29, 30, 31, 32, 33, 34, 35, 36, 37, 38, 39, 40, 41, 42, 43, 44, 45, 46, 47, 48, 49, 50, 51, 52, 53, 54, 417, 418, 419, 420, 421, 422, 423, 424, 425, 426, 427, 428, 429, 430, 431, 432, 433, 434, 435, 436, 437, 438, 439] (by decide +kernel) (by decide +kernel)
set_option maxRecDepth 20000 in
theorem gL_law_X2_init : GoodIn wsL_law (wsX2_init) := ggL_law_X2_init
set_option maxRecDepth 20000 in
theorem ggL_law_L_isRefused_h : GoodIn wsL_law [.code yL_isRefused cL_isRefused 10 (some .boolean)] := goodIn_sub (fun w h => by rw [List.mem_singleton.mp h]; exact List.mem_of_getElem? (i := 58) rfl) rfl
set_option maxRecDepth 20000 in
theorem ggL_law_L_isRefused_0 : GoodIn wsL_law wsL_isRefused_r1 := goodIn_r _ [59, 60, 61, 2, 62, 12, 63, 64, 57, 65, 66, 67, 68, 69, 70, 71, 72, 73, 74, 75, 76, 20, 77, 78] (by decide +kernel) (by decide +kernel)
set_option maxRecDepth 20000 in
theorem ggL_law_L_isRefused_1 : GoodIn wsL_law wsL_isRefused_r2 := goodIn_r _ [79, 80, 11, 81, 82, 83, 84, 22, 85, 54, 86, 87, 88, 89, 90, 91, 92, 93, 94, 95, 96, 97, 98, 99] (by decide +kernel) (by decide +kernel)
set_option maxRecDepth 20000 in
theorem ggL_law_L_isRefused_2 : GoodIn wsL_law wsL_isRefused_r3 := goodIn_r _ [100, 101, 102, 103, 104, 105, 106, 107, 108, 109, 110, 17, 111, 112, 113, 114, 115, 116, 117, 118, 119, 120, 121, 122] (by decide +kernel) (by decide +kernel)
set_option maxRecDepth 20000 in
theorem ggL_law_L_isRefused_3 : GoodIn wsL_law wsL_isRefused_r4 := goodIn_r _ [123, 124, 125, 126, 127, 128, 129, 130, 131, 132, 133, 134, 135, 136, 137, 138, 139, 140, 141, 142, 50, 47, 143, 144] (by decide +kernel) (by decide +kernel)
set_option maxRecDepth 20000 in
theorem ggL_law_L_isRefused_4 : GoodIn wsL_law wsL_isRefused_r5 := goodIn_r _ [145, 146, 147, 148, 149, 150, 151, 152, 153, 154, 155, 156, 157, 158, 159, 160, 161, 162, 163, 164, 165, 166, 167, 168] (by decide +kernel) (by decide +kernel)
set_option maxRecDepth 20000 in
theorem ggL_law_L_isRefused_5 : GoodIn wsL_law wsL_isRefused_r6 := goodIn_r _ [169, 170, 171, 172, 173, 174, 175, 176, 177, 178, 179, 180, 181, 182, 183, 184, 185, 186, 187, 188, 189, 190, 16, 191] (by decide +kernel) (by decide +kernel)
set_option maxRecDepth 20000 in
theorem ggL_law_L_isRefused_6 : GoodIn wsL_law wsL_isRefused_r7 := goodIn_r _ [192, 193, 194, 195, 196, 197, 198, 199, 200, 201, 202, 203, 204, 205, 206, 207, 208, 15, 209, 210, 211, 212, 213, 214] (by decide +kernel) (by decide +kernel)
set_option maxRecDepth 20000 in
theorem ggL_law_L_isRefused_7 : GoodIn wsL_law wsL_isRefused_r8 := goodIn_r _ [215, 216, 217, 218, 219, 220, 221, 222, 223, 224, 225, 226, 27, 227, 228, 229, 230, 8, 9, 231, 232, 233, 234, 235] (by decide +kernel) (by decide +kernel)
set_option maxRecDepth 20000 in
theorem ggL_law_L_isRefused_8 : GoodIn wsL_law wsL_isRefused_r9 := goodIn_r _ [236, 237, 238, 239, 240, 241, 242, 243, 244, 245, 246, 247, 248, 249, 250, 251, 26, 252, 253, 254, 255, 256, 257, 258] (by decide +kernel) (by decide +kernel)
set_option maxRecDepth 20000 in
theorem ggL_law_L_isRefused_9 : GoodIn wsL_law wsL_isRefused_r10 := goodIn_r _ [259, 260, 261, 262, 263, 264, 265, 266, 267, 268, 269, 270, 271, 272, 273, 274, 275, 276, 277, 278, 279, 280, 281, 282] (by decide +kernel) (by decide +kernel)
set_option maxRecDepth 20000 in
theorem ggL_law_L_isRefused_10 : GoodIn wsL_law wsL_isRefused_r11 := goodIn_r _ [283, 284, 285, 286, 287, 288, 289, 290, 291, 292, 293, 294, 295, 296, 297, 298, 299, 300, 301, 302, 303, 304, 305, 18] (by decide +kernel) (by decide +kernel)
set_option maxRecDepth 20000 in
theorem ggL_law_L_isRefused_11 : GoodIn wsL_law wsL_isRefused_r12 := goodIn_r _ [19, 306, 307, 308, 309, 310, 311, 312, 313, 314, 315, 316, 317, 46, 52, 44, 53, 318, 319, 320, 321, 322, 323, 324] (by decide +kernel) (by decide +kernel)
set_option maxRecDepth 20000 in
theorem ggL_law_L_isRefused_12 : GoodIn wsL_law wsL_isRefused_r13 := goodIn_r _ [325, 326, 327, 328, 329, 330, 51, 331, 332, 333, 334, 335, 336, 337, 338, 339, 340, 341, 342, 343, 344, 345, 346, 347] (by decide +kernel) (by decide +kernel)
set_option maxRecDepth 20000 in
theorem ggL_law_L_isRefused_13 : GoodIn wsL_law wsL_isRefused_r14 := goodIn_r _ [348, 45, 42, 349, 43, 350, 351, 352, 353, 354, 355, 356, 357, 358, 359, 360, 361, 362, 363, 364, 365, 366, 367, 368] (by decide +kernel) (by decide +kernel)
set_option maxRecDepth 20000 in
theorem ggL_law_L_isRefused_14 : GoodIn wsL_law wsL_isRefused_r15 := goodIn_r _ [369, 370, 371, 372, 373, 374, 375, 376] (by decide +kernel) (by decide +kernel)
set_option maxRecDepth 20000 in
theorem ggL_law_L_isRefused_wsX20 : GoodIn wsL_law wsX20 := goodIn_r _ [417, 418, 419, 420, 421, 422, 423] (by decide +kernel) (by decide +kernel)
set_option maxRecDepth 20000 in
theorem ggL_law_L_isRefused_wsX00 : GoodIn wsL_law wsX00 := goodIn_r _ [427, 428, 429, 430, 431, 432, 433, 434, 435, 436, 437, 438, 439] (by decide +kernel) (by decide +kernel)
set_option maxRecDepth 20000 in
theorem ggL_law_L_isRefused_wsX10 : GoodIn wsL_law wsX10 := goodIn_r _ [440, 441, 442] (by decide +kernel) (by decide +kernel)
set_option maxRecDepth 20000 in
theorem ggL_law_L_isRefused_wsJx4a65c0 : GoodIn wsL_law wsJx4a65c0 := goodIn_r _ [424, 425, 426] (by decide +kernel) (by decide +kernel)
set_option maxRecDepth 20000 in
theorem ggL_law_L_isRefused : GoodIn wsL_law wsL_isRefused := goodIn_ca (goodIn_ca (goodIn_ca (goodIn_ca (goodIn_ca (goodIn_ca (goodIn_ca (goodIn_hd ggL_law_L_isRefused_h (goodIn_app ggL_law_L_isRefused_0 (goodIn_app ggL_law_L_isRefused_1 (goodIn_app ggL_law_L_isRefused_2 (goodIn_app ggL_law_L_isRefused_3 (goodIn_app ggL_law_L_isRefused_4 (goodIn_app ggL_law_L_isRefused_5 (goodIn_app ggL_law_L_isRefused_6 (goodIn_app ggL_law_L_isRefused_7 (goodIn_app ggL_law_L_isRefused_8 (goodIn_app ggL_law_L_isRefused_9 (goodIn_app ggL_law_L_isRefused_10 (goodIn_app ggL_law_L_isRefused_11 (goodIn_app ggL_law_L_isRefused_12 (goodIn_app ggL_law_L_isRefused_13 ggL_law_L_isRefused_14))))))))))))))) ggL_law_L_isRefused_wsX20) ggL_law_L_isRefused_wsX00) ggL_law_L_isRefused_wsX10) ggL_law_L_isRefused_wsJx4a65c0) (goodIn_sub (fun _ h => List.mem_append_left _ (List.mem_append_left _ (List.mem_append_right _ h))) (by decide +kernel))) (goodIn_sub (fun _ h => List.mem_append_left _ (List.mem_append_right _ h)) (by decide +kernel))) (goodIn_sub (fun _ h => List.mem_append_right _ h) (by decide +kernel))
set_option maxRecDepth 20000 in
theorem gL_law_L_isRefused : GoodIn wsL_law (va_wsS RL 133 yL_isRefused wsL_isRefused) := goodIn_app (goodIn_of _ (by decide +kernel)) ggL_law_L_isRefused
set_option maxRecDepth 20000 in
theorem ggL_law_X2_bar : GoodIn wsL_law wsX2_bar := goodIn_r _ [76, 20, 417, 418, 419, 420, 421, 422, 423] (by decide +kernel) (by decide +kernel)
set_option maxRecDepth 20000 in
theorem gL_law_X2_bar : GoodIn wsL_law (wsV RL 67 RX2 yX2_bar wsX2_bar) := goodIn_app (goodIn_of _ (by decide +kernel)) ggL_law_X2_bar
set_option maxRecDepth 20000 in
theorem ggL_law_L_dice : GoodIn wsL_law wsL_dice := goodIn_r _ [379, 380, 381] (by decide +kernel) (by decide +kernel)
set_option maxRecDepth 20000 in
theorem gL_law_L_dice : GoodIn wsL_law (va_wsS RL 137 yL_dice wsL_dice) := goodIn_app (goodIn_of _ (by decide +kernel)) ggL_law_L_dice
set_option maxRecDepth 20000 in
theorem ggL_law_X2_units : GoodIn wsL_law wsX2_units := goodIn_r _ [62, 12, 417, 418, 419, 420, 421, 422, 423] (by decide +kernel) (by decide +kernel)
set_option maxRecDepth 20000 in
theorem gL_law_X2_units : GoodIn wsL_law (wsV RL 61 RX2 yX2_units wsX2_units) := goodIn_app (goodIn_of _ (by decide +kernel)) ggL_law_X2_units
set_option maxRecDepth 20000 in
theorem ggL_law_X2_goesOn : GoodIn wsL_law wsX2_goesOn := goodIn_r _ [110, 17, 417, 418, 419, 420, 421, 422, 423] (by decide +kernel) (by decide +kernel)
set_option maxRecDepth 20000 in
theorem gL_law_X2_goesOn : GoodIn wsL_law (wsV RL 80 RX2 yX2_goesOn wsX2_goesOn) := goodIn_app (goodIn_of _ (by decide +kernel)) ggL_law_X2_goesOn
set_option maxRecDepth 20000 in
theorem ggL_law_L_act_h : GoodIn wsL_law [.codeWith yL_act cL_act 6 (some .int) [(0, 144, 145, 43), (0, 144, 151, 45), (0, 144, 157, 47)]] := goodIn_sub (fun w h => by rw [List.mem_singleton.mp h]; exact List.mem_of_getElem? (i := 157) rfl) rfl
set_option maxRecDepth 20000 in
theorem ggL_law_L_act_0 : GoodIn wsL_law wsL_act_r1 := goodIn_r _ [158, 159, 160, 161, 162, 163, 2, 164, 165, 166, 12, 11, 167, 96, 168, 169, 170, 171, 172, 173, 174, 175, 176, 177] (by decide +kernel) (by decide +kernel)
set_option maxRecDepth 20000 in
theorem ggL_law_L_act_1 : GoodIn wsL_law wsL_act_r2 := goodIn_r _ [178, 17, 179, 180, 181, 182, 102, 115, 116, 117, 118, 119, 120, 183, 184, 185, 186, 138, 82, 83, 84, 22, 85, 54] (by decide +kernel) (by decide +kernel)
set_option maxRecDepth 20000 in
theorem ggL_law_L_act_2 : GoodIn wsL_law wsL_act_r3 := goodIn_r _ [103, 104, 105, 106, 187, 188, 189, 190, 16, 191, 192, 193, 194, 195, 196, 197, 198, 199, 200, 201, 202, 203, 204, 205] (by decide +kernel) (by decide +kernel)
set_option maxRecDepth 20000 in
theorem ggL_law_L_act_3 : GoodIn wsL_law wsL_act_r4 := goodIn_r _ [206, 207, 208, 15, 209, 210, 211, 212, 213, 214, 215, 216, 217, 218, 219, 220, 221, 222, 223, 224, 225, 226, 27, 227] (by decide +kernel) (by decide +kernel)
set_option maxRecDepth 20000 in
theorem ggL_law_L_act_4 : GoodIn wsL_law wsL_act_r5 := goodIn_r _ [228, 229, 230, 8, 9, 231, 232, 233, 234, 235, 236, 237, 238, 239, 240, 241, 242, 243, 244, 245, 246, 247, 248, 249] (by decide +kernel) (by decide +kernel)
set_option maxRecDepth 20000 in
theorem ggL_law_L_act_5 : GoodIn wsL_law wsL_act_r6 := goodIn_r _ [250, 251, 26, 252, 253, 254, 255, 256, 257, 258, 259, 260, 261, 262, 263, 264, 265, 266, 267, 268, 269, 270, 271, 272] (by decide +kernel) (by decide +kernel)
set_option maxRecDepth 20000 in
theorem ggL_law_L_act_6 : GoodIn wsL_law wsL_act_r7 := goodIn_r _ [273, 274, 275, 276, 277, 278, 279, 280, 281, 282, 283, 284, 285, 286, 287, 288, 289, 101, 290, 291, 292, 293, 94, 294] (by decide +kernel) (by decide +kernel)
set_option maxRecDepth 20000 in
theorem ggL_law_L_act_7 : GoodIn wsL_law wsL_act_r8 := goodIn_r _ [295, 296, 297, 95, 298, 299, 300, 301, 302, 303, 304, 305, 18, 19, 20, 306, 307, 308, 309, 310, 311, 312, 313, 314] (by decide +kernel) (by decide +kernel)
set_option maxRecDepth 20000 in
theorem ggL_law_L_act_8 : GoodIn wsL_law wsL_act_r9 := goodIn_r _ [315, 316, 317, 46, 50, 52, 44, 53, 318, 319, 320, 321, 322, 323, 324, 325, 326, 327, 328, 329, 330, 51, 331, 332] (by decide +kernel) (by decide +kernel)
set_option maxRecDepth 20000 in
theorem ggL_law_L_act_9 : GoodIn wsL_law wsL_act_r10 := goodIn_r _ [333, 334, 335, 336, 337, 338, 339, 340, 341, 342, 343, 81, 344, 345, 346, 347, 348, 45, 42, 349, 43, 350, 351, 352] (by decide +kernel) (by decide +kernel)
set_option maxRecDepth 20000 in
theorem ggL_law_L_act_10 : GoodIn wsL_law wsL_act_r11 := goodIn_r _ [353, 354, 355, 356, 357, 147, 148, 149, 150, 47, 143, 144, 145, 146, 358, 359, 360, 361, 362, 363, 364, 365, 139, 140] (by decide +kernel) (by decide +kernel)
set_option maxRecDepth 20000 in
theorem ggL_law_L_act_11 : GoodIn wsL_law wsL_act_r12 := goodIn_r _ [141, 142, 366, 367, 368, 369, 151, 152, 153, 154, 370, 371, 372, 373] (by decide +kernel) (by decide +kernel)
set_option maxRecDepth 20000 in
theorem ggL_law_L_act_wsX20 : GoodIn wsL_law wsX20 := goodIn_r _ [417, 418, 419, 420, 421, 422, 423] (by decide +kernel) (by decide +kernel)
set_option maxRecDepth 20000 in
theorem ggL_law_L_act_wsX00 : GoodIn wsL_law wsX00 := goodIn_r _ [427, 428, 429, 430, 431, 432, 433, 434, 435, 436, 437, 438, 439] (by decide +kernel) (by decide +kernel)
set_option maxRecDepth 20000 in
theorem ggL_law_L_act_wsX10 : GoodIn wsL_law wsX10 := goodIn_r _ [440, 441, 442] (by decide +kernel) (by decide +kernel)
set_option maxRecDepth 20000 in
theorem ggL_law_L_act_wsJx4a65c0 : GoodIn wsL_law wsJx4a65c0 := goodIn_r _ [424, 425, 426] (by decide +kernel) (by decide +kernel)
set_option maxRecDepth 20000 in
theorem ggL_law_L_act : GoodIn wsL_law wsL_act := goodIn_ca (goodIn_ca (goodIn_ca (goodIn_ca (goodIn_ca (goodIn_ca (goodIn_ca (goodIn_hd ggL_law_L_act_h (goodIn_app ggL_law_L_act_0 (goodIn_app ggL_law_L_act_1 (goodIn_app ggL_law_L_act_2 (goodIn_app ggL_law_L_act_3 (goodIn_app ggL_law_L_act_4 (goodIn_app ggL_law_L_act_5 (goodIn_app ggL_law_L_act_6 (goodIn_app ggL_law_L_act_7 (goodIn_app ggL_law_L_act_8 (goodIn_app ggL_law_L_act_9 (goodIn_app ggL_law_L_act_10 ggL_law_L_act_11)))))))))))) ggL_law_L_act_wsX20) ggL_law_L_act_wsX00) ggL_law_L_act_wsX10) ggL_law_L_act_wsJx4a65c0) (goodIn_sub (fun _ h => List.mem_append_left _ (List.mem_append_right _ h)) (by decide +kernel))) (goodIn_sub (fun _ h => List.mem_append_right _ h) (by decide +kernel))) (goodIn_sub (fun _ h => List.mem_append_left _ (List.mem_append_left _ (List.mem_append_right _ h))) (by decide +kernel))
set_option maxRecDepth 20000 in
theorem gL_law_L_act : GoodIn wsL_law (va_wsS RL 112 yL_act wsL_act) := goodIn_app (goodIn_of _ (by decide +kernel)) ggL_law_L_act
set_option maxRecDepth 20000 in
theorem ggL_law_X2_state : GoodIn wsL_law wsX2_state := goodIn_ca (goodIn_r _ [114, 81, 115, 116, 117, 2, 118, 119, 120, 12, 11, 427, 428, 429, 430, 431, 432, 433, 434, 435, 436, 437, 438, 439, 417, 418, 419, 420, 421, 422, 423] (by decide +kernel) (by decide +kernel)) (goodIn_sub (fun _ h => List.mem_append_left _ (List.mem_append_left _ (List.mem_append_right _ h))) (by decide +kernel))
set_option maxRecDepth 20000 in
theorem gL_law_X2_state : GoodIn wsL_law (wsV RL 55 RX2 yX2_state wsX2_state) := goodIn_app (goodIn_of _ (by decide +kernel)) ggL_law_X2_state
set_option maxRecDepth 20000 in
theorem ggL_law_X2_learned : GoodIn wsL_law wsX2_learned := goodIn_ca (goodIn_r _ [124, 125, 115, 116, 117, 2, 118, 119, 120, 12, 11, 427, 428, 429, 430, 431, 432, 433, 434, 435, 436, 437, 438, 439, 417, 418, 419, 420, 421, 422, 423] (by decide +kernel) (by decide +kernel)) (goodIn_sub (fun _ h => List.mem_append_left _ (List.mem_append_left _ (List.mem_append_right _ h))) (by decide +kernel))
set_option maxRecDepth 20000 in
theorem gL_law_X2_learned : GoodIn wsL_law (wsV RL 49 RX2 yX2_learned wsX2_learned) := goodIn_app (goodIn_of _ (by decide +kernel)) ggL_law_X2_learned
set_option maxRecDepth 20000 in
theorem ggL_law_X2_faults : GoodIn wsL_law wsX2_faults := goodIn_ca (goodIn_r _ [129, 95, 115, 116, 117, 2, 118, 119, 120, 12, 11, 427, 428, 429, 430, 431, 432, 433, 434, 435, 436, 437, 438, 439, 417, 418, 419, 420, 421, 422, 423] (by decide +kernel) (by decide +kernel)) (goodIn_sub (fun _ h => List.mem_append_left _ (List.mem_append_left _ (List.mem_append_right _ h))) (by decide +kernel))
set_option maxRecDepth 20000 in
theorem gL_law_X2_faults : GoodIn wsL_law (wsV RL 52 RX2 yX2_faults wsX2_faults) := goodIn_app (goodIn_of _ (by decide +kernel)) ggL_law_X2_faults
set_option maxRecDepth 20000 in
theorem ggL_law_L_isTicked_h : GoodIn wsL_law [.code yL_isTicked cL_isTicked 17 (some .boolean)] := goodIn_sub (fun w h => by rw [List.mem_singleton.mp h]; exact List.mem_of_getElem? (i := 384) rfl) rfl
set_option maxRecDepth 20000 in
theorem ggL_law_L_isTicked_0 : GoodIn wsL_law wsL_isTicked_r1 := goodIn_r _ [73, 74, 75, 2, 76, 20, 59, 60, 61, 62, 12, 111, 112, 113, 114, 81, 115, 116, 117, 118, 119, 120, 11, 126] (by decide +kernel) (by decide +kernel)
set_option maxRecDepth 20000 in
theorem ggL_law_L_isTicked_1 : GoodIn wsL_law wsL_isTicked_r2 := goodIn_r _ [127, 128, 129, 95, 121, 122, 123, 124, 125, 155, 156, 57, 157, 158, 159, 160, 161, 162, 163, 164, 165, 166, 167, 96] (by decide +kernel) (by decide +kernel)
set_option maxRecDepth 20000 in
theorem ggL_law_L_isTicked_2 : GoodIn wsL_law wsL_isTicked_r3 := goodIn_r _ [168, 169, 170, 171, 172, 173, 174, 175, 176, 177, 178, 17, 179, 180, 181, 182, 102, 183, 184, 185, 186, 138, 82, 83] (by decide +kernel) (by decide +kernel)
set_option maxRecDepth 20000 in
theorem ggL_law_L_isTicked_3 : GoodIn wsL_law wsL_isTicked_r4 := goodIn_r _ [84, 22, 85, 54, 103, 104, 105, 106, 187, 188, 189, 190, 16, 191, 192, 193, 194, 195, 196, 197, 198, 199, 200, 201] (by decide +kernel) (by decide +kernel)
set_option maxRecDepth 20000 in
theorem ggL_law_L_isTicked_4 : GoodIn wsL_law wsL_isTicked_r5 := goodIn_r _ [202, 203, 204, 205, 206, 207, 208, 15, 209, 210, 211, 212, 213, 214, 215, 216, 217, 218, 219, 220, 221, 222, 223, 224] (by decide +kernel) (by decide +kernel)
set_option maxRecDepth 20000 in
theorem ggL_law_L_isTicked_5 : GoodIn wsL_law wsL_isTicked_r6 := goodIn_r _ [225, 226, 27, 227, 228, 229, 230, 8, 9, 231, 232, 233, 234, 235, 236, 237, 238, 239, 240, 241, 242, 243, 244, 245] (by decide +kernel) (by decide +kernel)
set_option maxRecDepth 20000 in
theorem ggL_law_L_isTicked_6 : GoodIn wsL_law wsL_isTicked_r7 := goodIn_r _ [246, 247, 248, 249, 250, 251, 26, 252, 253, 254, 255, 256, 257, 258, 259, 260, 261, 262, 263, 264, 265, 266, 267, 268] (by decide +kernel) (by decide +kernel)
set_option maxRecDepth 20000 in
theorem ggL_law_L_isTicked_7 : GoodIn wsL_law wsL_isTicked_r8 := goodIn_r _ [269, 270, 271, 272, 273, 274, 275, 276, 277, 278, 279, 280, 281, 282, 283, 284, 285, 286, 287, 288, 289, 101, 290, 291] (by decide +kernel) (by decide +kernel)
set_option maxRecDepth 20000 in
theorem ggL_law_L_isTicked_8 : GoodIn wsL_law wsL_isTicked_r9 := goodIn_r _ [292, 293, 94, 294, 295, 296, 297, 298, 299, 300, 301, 302, 303, 304, 305, 18, 19, 306, 307, 308, 309, 310, 311, 312] (by decide +kernel) (by decide +kernel)
set_option maxRecDepth 20000 in
theorem ggL_law_L_isTicked_9 : GoodIn wsL_law wsL_isTicked_r10 := goodIn_r _ [313, 314, 315, 316, 317, 46, 50, 52, 44, 53, 318, 319, 320, 321, 322, 323, 324, 325, 326, 327, 328, 329, 330, 51] (by decide +kernel) (by decide +kernel)
set_option maxRecDepth 20000 in
theorem ggL_law_L_isTicked_10 : GoodIn wsL_law wsL_isTicked_r11 := goodIn_r _ [331, 332, 333, 334, 335, 336, 337, 338, 339, 340, 341, 342, 343, 344, 345, 346, 347, 348, 45, 42, 349, 43, 350, 351] (by decide +kernel) (by decide +kernel)
set_option maxRecDepth 20000 in
theorem ggL_law_L_isTicked_11 : GoodIn wsL_law wsL_isTicked_r12 := goodIn_r _ [352, 353, 354, 355, 356, 357, 147, 148, 149, 150, 47, 143, 144, 145, 146, 358, 359, 360, 361, 362, 363, 364, 365, 139] (by decide +kernel) (by decide +kernel)
set_option maxRecDepth 20000 in
theorem ggL_law_L_isTicked_12 : GoodIn wsL_law wsL_isTicked_r13 := goodIn_r _ [140, 141, 142, 366, 367, 368, 369, 151, 152, 153, 154, 370, 371, 372, 373, 385, 386, 387, 388, 389, 390, 391, 392, 393] (by decide +kernel) (by decide +kernel)
set_option maxRecDepth 20000 in
theorem ggL_law_L_isTicked_13 : GoodIn wsL_law wsL_isTicked_r14 := goodIn_r _ [107, 108, 109, 110, 130, 131, 132, 133, 134, 135, 136, 137] (by decide +kernel) (by decide +kernel)
set_option maxRecDepth 20000 in
theorem ggL_law_L_isTicked_wsX20 : GoodIn wsL_law wsX20 := goodIn_r _ [417, 418, 419, 420, 421, 422, 423] (by decide +kernel) (by decide +kernel)
set_option maxRecDepth 20000 in
theorem ggL_law_L_isTicked_wsX00 : GoodIn wsL_law wsX00 := goodIn_r _ [427, 428, 429, 430, 431, 432, 433, 434, 435, 436, 437, 438, 439] (by decide +kernel) (by decide +kernel)
set_option maxRecDepth 20000 in
theorem ggL_law_L_isTicked_wsX10 : GoodIn wsL_law wsX10 := goodIn_r _ [440, 441, 442] (by decide +kernel) (by decide +kernel)
set_option maxRecDepth 20000 in
theorem ggL_law_L_isTicked_wsJx4a65c0 : GoodIn wsL_law wsJx4a65c0 := goodIn_r _ [424, 425, 426] (by decide +kernel) (by decide +kernel)
set_option maxRecDepth 20000 in
theorem ggL_law_L_isTicked : GoodIn wsL_law wsL_isTicked := goodIn_ca (goodIn_ca (goodIn_ca (goodIn_ca (goodIn_ca (goodIn_ca (goodIn_ca (goodIn_hd ggL_law_L_isTicked_h (goodIn_app ggL_law_L_isTicked_0 (goodIn_app ggL_law_L_isTicked_1 (goodIn_app ggL_law_L_isTicked_2 (goodIn_app ggL_law_L_isTicked_3 (goodIn_app ggL_law_L_isTicked_4 (goodIn_app ggL_law_L_isTicked_5 (goodIn_app ggL_law_L_isTicked_6 (goodIn_app ggL_law_L_isTicked_7 (goodIn_app ggL_law_L_isTicked_8 (goodIn_app ggL_law_L_isTicked_9 (goodIn_app ggL_law_L_isTicked_10 (goodIn_app ggL_law_L_isTicked_11 (goodIn_app ggL_law_L_isTicked_12 ggL_law_L_isTicked_13)))))))))))))) ggL_law_L_isTicked_wsX20) ggL_law_L_isTicked_wsX00) ggL_law_L_isTicked_wsX10) ggL_law_L_isTicked_wsJx4a65c0) (goodIn_sub (fun _ h => List.mem_append_left _ (List.mem_append_left _ (List.mem_append_right _ h))) (by decide +kernel))) (goodIn_sub (fun _ h => List.mem_append_left _ (List.mem_append_right _ h)) (by decide +kernel))) (goodIn_sub (fun _ h => List.mem_append_right _ h) (by decide +kernel))
set_option maxRecDepth 20000 in
theorem gL_law_L_isTicked : GoodIn wsL_law (va_wsS RL 141 yL_isTicked wsL_isTicked) := goodIn_app (goodIn_of _ (by decide +kernel)) ggL_law_L_isTicked
set_option maxRecDepth 20000 in
theorem ggL_law_L_isTold_h : GoodIn wsL_law [.code yL_isTold cL_isTold 12 (some .boolean)] := goodIn_sub (fun w h => by rw [List.mem_singleton.mp h]; exact List.mem_of_getElem? (i := 396) rfl) rfl
set_option maxRecDepth 20000 in
theorem ggL_law_L_isTold_0 : GoodIn wsL_law wsL_isTold_r1 := goodIn_r _ [59, 60, 61, 2, 62, 12, 155, 156, 57, 157, 158, 159, 160, 161, 162, 163, 164, 165, 166, 11, 167, 96, 168, 169] (by decide +kernel) (by decide +kernel)
set_option maxRecDepth 20000 in
theorem ggL_law_L_isTold_1 : GoodIn wsL_law wsL_isTold_r2 := goodIn_r _ [170, 171, 172, 173, 174, 175, 176, 177, 178, 17, 179, 180, 181, 182, 102, 115, 116, 117, 118, 119, 120, 183, 184, 185] (by decide +kernel) (by decide +kernel)
set_option maxRecDepth 20000 in
theorem ggL_law_L_isTold_2 : GoodIn wsL_law wsL_isTold_r3 := goodIn_r _ [186, 138, 82, 83, 84, 22, 85, 54, 103, 104, 105, 106, 187, 188, 189, 190, 16, 191, 192, 193, 194, 195, 196, 197] (by decide +kernel) (by decide +kernel)
set_option maxRecDepth 20000 in
theorem ggL_law_L_isTold_3 : GoodIn wsL_law wsL_isTold_r4 := goodIn_r _ [198, 199, 200, 201, 202, 203, 204, 205, 206, 207, 208, 15, 209, 210, 211, 212, 213, 214, 215, 216, 217, 218, 219, 220] (by decide +kernel) (by decide +kernel)
set_option maxRecDepth 20000 in
theorem ggL_law_L_isTold_4 : GoodIn wsL_law wsL_isTold_r5 := goodIn_r _ [221, 222, 223, 224, 225, 226, 27, 227, 228, 229, 230, 8, 9, 231, 232, 233, 234, 235, 236, 237, 238, 239, 240, 241] (by decide +kernel) (by decide +kernel)
set_option maxRecDepth 20000 in
theorem ggL_law_L_isTold_5 : GoodIn wsL_law wsL_isTold_r6 := goodIn_r _ [242, 243, 244, 245, 246, 247, 248, 249, 250, 251, 26, 252, 253, 254, 255, 256, 257, 258, 259, 260, 261, 262, 263, 264] (by decide +kernel) (by decide +kernel)
set_option maxRecDepth 20000 in
theorem ggL_law_L_isTold_6 : GoodIn wsL_law wsL_isTold_r7 := goodIn_r _ [265, 266, 267, 268, 269, 270, 271, 272, 273, 274, 275, 276, 277, 278, 279, 280, 281, 282, 283, 284, 285, 286, 287, 288] (by decide +kernel) (by decide +kernel)
set_option maxRecDepth 20000 in
theorem ggL_law_L_isTold_7 : GoodIn wsL_law wsL_isTold_r8 := goodIn_r _ [289, 101, 290, 291, 292, 293, 94, 294, 295, 296, 297, 95, 298, 299, 300, 301, 302, 303, 304, 305, 18, 19, 20, 306] (by decide +kernel) (by decide +kernel)
set_option maxRecDepth 20000 in
theorem ggL_law_L_isTold_8 : GoodIn wsL_law wsL_isTold_r9 := goodIn_r _ [307, 308, 309, 310, 311, 312, 313, 314, 315, 316, 317, 46, 50, 52, 44, 53, 318, 319, 320, 321, 322, 323, 324, 325] (by decide +kernel) (by decide +kernel)
set_option maxRecDepth 20000 in
theorem ggL_law_L_isTold_9 : GoodIn wsL_law wsL_isTold_r10 := goodIn_r _ [326, 327, 328, 329, 330, 51, 331, 332, 333, 334, 335, 336, 337, 338, 339, 340, 341, 342, 343, 81, 344, 345, 346, 347] (by decide +kernel) (by decide +kernel)
set_option maxRecDepth 20000 in
theorem ggL_law_L_isTold_10 : GoodIn wsL_law wsL_isTold_r11 := goodIn_r _ [348, 45, 42, 349, 43, 350, 351, 352, 353, 354, 355, 356, 357, 147, 148, 149, 150, 47, 143, 144, 145, 146, 358, 359] (by decide +kernel) (by decide +kernel)
set_option maxRecDepth 20000 in
theorem ggL_law_L_isTold_11 : GoodIn wsL_law wsL_isTold_r12 := goodIn_r _ [360, 361, 362, 363, 364, 365, 139, 140, 141, 142, 366, 367, 368, 369, 151, 152, 153, 154, 370, 371, 372, 373] (by decide +kernel) (by decide +kernel)
set_option maxRecDepth 20000 in
theorem ggL_law_L_isTold_wsX20 : GoodIn wsL_law wsX20 := goodIn_r _ [417, 418, 419, 420, 421, 422, 423] (by decide +kernel) (by decide +kernel)
set_option maxRecDepth 20000 in
theorem ggL_law_L_isTold_wsX00 : GoodIn wsL_law wsX00 := goodIn_r _ [427, 428, 429, 430, 431, 432, 433, 434, 435, 436, 437, 438, 439] (by decide +kernel) (by decide +kernel)
set_option maxRecDepth 20000 in
theorem ggL_law_L_isTold_wsX10 : GoodIn wsL_law wsX10 := goodIn_r _ [440, 441, 442] (by decide +kernel) (by decide +kernel)
set_option maxRecDepth 20000 in
theorem ggL_law_L_isTold_wsJx4a65c0 : GoodIn wsL_law wsJx4a65c0 := goodIn_r _ [424, 425, 426] (by decide +kernel) (by decide +kernel)
set_option maxRecDepth 20000 in
theorem ggL_law_L_isTold : GoodIn wsL_law wsL_isTold := goodIn_ca (goodIn_ca (goodIn_ca (goodIn_ca (goodIn_ca (goodIn_ca (goodIn_ca (goodIn_hd ggL_law_L_isTold_h (goodIn_app ggL_law_L_isTold_0 (goodIn_app ggL_law_L_isTold_1 (goodIn_app ggL_law_L_isTold_2 (goodIn_app ggL_law_L_isTold_3 (goodIn_app ggL_law_L_isTold_4 (goodIn_app ggL_law_L_isTold_5 (goodIn_app ggL_law_L_isTold_6 (goodIn_app ggL_law_L_isTold_7 (goodIn_app ggL_law_L_isTold_8 (goodIn_app ggL_law_L_isTold_9 (goodIn_app ggL_law_L_isTold_10 ggL_law_L_isTold_11)))))))))))) ggL_law_L_isTold_wsX20) ggL_law_L_isTold_wsX00) ggL_law_L_isTold_wsX10) ggL_law_L_isTold_wsJx4a65c0) (goodIn_sub (fun _ h => List.mem_append_left _ (List.mem_append_right _ h)) (by decide +kernel))) (goodIn_sub (fun _ h => List.mem_append_right _ h) (by decide +kernel))) (goodIn_sub (fun _ h => List.mem_append_left _ (List.mem_append_left _ (List.mem_append_right _ h))) (by decide +kernel))
set_option maxRecDepth 20000 in
theorem gL_law_L_isTold : GoodIn wsL_law (va_wsS RL 145 yL_isTold wsL_isTold) := goodIn_app (goodIn_of _ (by decide +kernel)) ggL_law_L_isTold
set_option maxRecDepth 20000 in
theorem ggL_law_L_isBegun_h : GoodIn wsL_law [.code yL_isBegun cL_isBegun 9 (some .boolean)] := goodIn_sub (fun w h => by rw [List.mem_singleton.mp h]; exact List.mem_of_getElem? (i := 399) rfl) rfl
set_option maxRecDepth 20000 in
theorem ggL_law_L_isBegun_0 : GoodIn wsL_law wsL_isBegun_r1 := goodIn_r _ [59, 60, 61, 2, 62, 12, 400, 401, 57, 402, 403, 404, 405, 406, 407, 155, 156, 157, 158, 159, 160, 161, 162, 163] (by decide +kernel) (by decide +kernel)
set_option maxRecDepth 20000 in
theorem ggL_law_L_isBegun_1 : GoodIn wsL_law wsL_isBegun_r2 := goodIn_r _ [164, 165, 166, 11, 167, 96, 168, 169, 170, 171, 172, 173, 174, 175, 176, 177, 178, 17, 179, 180, 181, 182, 102, 115] (by decide +kernel) (by decide +kernel)
set_option maxRecDepth 20000 in
theorem ggL_law_L_isBegun_2 : GoodIn wsL_law wsL_isBegun_r3 := goodIn_r _ [116, 117, 118, 119, 120, 183, 184, 185, 186, 138, 82, 83, 84, 22, 85, 54, 103, 104, 105, 106, 187, 188, 189, 190] (by decide +kernel) (by decide +kernel)
set_option maxRecDepth 20000 in
theorem ggL_law_L_isBegun_3 : GoodIn wsL_law wsL_isBegun_r4 := goodIn_r _ [16, 191, 192, 193, 194, 195, 196, 197, 198, 199, 200, 201, 202, 203, 204, 205, 206, 207, 208, 15, 209, 210, 211, 212] (by decide +kernel) (by decide +kernel)
set_option maxRecDepth 20000 in
theorem ggL_law_L_isBegun_4 : GoodIn wsL_law wsL_isBegun_r5 := goodIn_r _ [213, 214, 215, 216, 217, 218, 219, 220, 221, 222, 223, 224, 225, 226, 27, 227, 228, 229, 230, 8, 9, 231, 232, 233] (by decide +kernel) (by decide +kernel)
set_option maxRecDepth 20000 in
theorem ggL_law_L_isBegun_5 : GoodIn wsL_law wsL_isBegun_r6 := goodIn_r _ [234, 235, 236, 237, 238, 239, 240, 241, 242, 243, 244, 245, 246, 247, 248, 249, 250, 251, 26, 252, 253, 254, 255, 256] (by decide +kernel) (by decide +kernel)
set_option maxRecDepth 20000 in
theorem ggL_law_L_isBegun_6 : GoodIn wsL_law wsL_isBegun_r7 := goodIn_r _ [257, 258, 259, 260, 261, 262, 263, 264, 265, 266, 267, 268, 269, 270, 271, 272, 273, 274, 275, 276, 277, 278, 279, 280] (by decide +kernel) (by decide +kernel)
set_option maxRecDepth 20000 in
theorem ggL_law_L_isBegun_7 : GoodIn wsL_law wsL_isBegun_r8 := goodIn_r _ [281, 282, 283, 284, 285, 286, 287, 288, 289, 101, 290, 291, 292, 293, 94, 294, 295, 296, 297, 95, 298, 299, 300, 301] (by decide +kernel) (by decide +kernel)
set_option maxRecDepth 20000 in
theorem ggL_law_L_isBegun_8 : GoodIn wsL_law wsL_isBegun_r9 := goodIn_r _ [302, 303, 304, 305, 18, 19, 20, 306, 307, 308, 309, 310, 311, 312, 313, 314, 315, 316, 317, 46, 50, 52, 44, 53] (by decide +kernel) (by decide +kernel)
set_option maxRecDepth 20000 in
theorem ggL_law_L_isBegun_9 : GoodIn wsL_law wsL_isBegun_r10 := goodIn_r _ [318, 319, 320, 321, 322, 323, 324, 325, 326, 327, 328, 329, 330, 51, 331, 332, 333, 334, 335, 336, 337, 338, 339, 340] (by decide +kernel) (by decide +kernel)
set_option maxRecDepth 20000 in
theorem ggL_law_L_isBegun_10 : GoodIn wsL_law wsL_isBegun_r11 := goodIn_r _ [341, 342, 343, 81, 344, 345, 346, 347, 348, 45, 42, 349, 43, 350, 351, 352, 353, 354, 355, 356, 357, 147, 148, 149] (by decide +kernel) (by decide +kernel)
set_option maxRecDepth 20000 in
theorem ggL_law_L_isBegun_11 : GoodIn wsL_law wsL_isBegun_r12 := goodIn_r _ [150, 47, 143, 144, 145, 146, 358, 359, 360, 361, 362, 363, 364, 365, 139, 140, 141, 142, 366, 367, 368, 369, 151, 152] (by decide +kernel) (by decide +kernel)
set_option maxRecDepth 20000 in
theorem ggL_law_L_isBegun_12 : GoodIn wsL_law wsL_isBegun_r13 := goodIn_r _ [153, 154, 370, 371, 372, 373, 107, 108, 109, 110, 77, 78, 79, 80, 121, 122, 123, 124, 125, 111, 112, 113, 114, 73] (by decide +kernel) (by decide +kernel)
set_option maxRecDepth 20000 in
theorem ggL_law_L_isBegun_13 : GoodIn wsL_law wsL_isBegun_r14 := goodIn_r _ [74, 75, 76] (by decide +kernel) (by decide +kernel)
set_option maxRecDepth 20000 in
theorem ggL_law_L_isBegun_wsX20 : GoodIn wsL_law wsX20 := goodIn_r _ [417, 418, 419, 420, 421, 422, 423] (by decide +kernel) (by decide +kernel)
set_option maxRecDepth 20000 in
theorem ggL_law_L_isBegun_wsX00 : GoodIn wsL_law wsX00 := goodIn_r _ [427, 428, 429, 430, 431, 432, 433, 434, 435, 436, 437, 438, 439] (by decide +kernel) (by decide +kernel)
set_option maxRecDepth 20000 in
theorem ggL_law_L_isBegun_wsX10 : GoodIn wsL_law wsX10 := goodIn_r _ [440, 441, 442] (by decide +kernel) (by decide +kernel)
set_option maxRecDepth 20000 in
theorem ggL_law_L_isBegun_wsJx4a65c0 : GoodIn wsL_law wsJx4a65c0 := goodIn_r _ [424, 425, 426] (by decide +kernel) (by decide +kernel)
set_option maxRecDepth 20000 in
theorem ggL_law_L_isBegun : GoodIn wsL_law wsL_isBegun := goodIn_ca (goodIn_ca (goodIn_ca (goodIn_ca (goodIn_ca (goodIn_ca (goodIn_ca (goodIn_hd ggL_law_L_isBegun_h (goodIn_app ggL_law_L_isBegun_0 (goodIn_app ggL_law_L_isBegun_1 (goodIn_app ggL_law_L_isBegun_2 (goodIn_app ggL_law_L_isBegun_3 (goodIn_app ggL_law_L_isBegun_4 (goodIn_app ggL_law_L_isBegun_5 (goodIn_app ggL_law_L_isBegun_6 (goodIn_app ggL_law_L_isBegun_7 (goodIn_app ggL_law_L_isBegun_8 (goodIn_app ggL_law_L_isBegun_9 (goodIn_app ggL_law_L_isBegun_10 (goodIn_app ggL_law_L_isBegun_11 (goodIn_app ggL_law_L_isBegun_12 ggL_law_L_isBegun_13)))))))))))))) ggL_law_L_isBegun_wsX20) ggL_law_L_isBegun_wsX00) ggL_law_L_isBegun_wsX10) ggL_law_L_isBegun_wsJx4a65c0) (goodIn_sub (fun _ h => List.mem_append_left _ (List.mem_append_right _ h)) (by decide +kernel))) (goodIn_sub (fun _ h => List.mem_append_right _ h) (by decide +kernel))) (goodIn_sub (fun _ h => List.mem_append_left _ (List.mem_append_left _ (List.mem_append_right _ h))) (by decide +kernel))
set_option maxRecDepth 20000 in
theorem gL_law_L_isBegun : GoodIn wsL_law (va_wsS RL 149 yL_isBegun wsL_isBegun) := goodIn_app (goodIn_of _ (by decide +kernel)) ggL_law_L_isBegun
set_option maxRecDepth 20000 in
theorem ggL_law_L_areUnits : GoodIn wsL_law wsL_areUnits := goodIn_ca (goodIn_r _ [410, 73, 74, 75, 2, 76, 20, 59, 60, 61, 62, 12, 111, 112, 113, 114, 81, 115, 116, 117, 118, 119, 120, 11, 130, 131, 132, 133, 134, 135, 136, 137, 102, 138, 103, 104, 105, 106, 82, 83, 84, 22, 85, 54, 139, 140, 141, 142, 50, 47, 143, 144, 145, 146, 147, 148, 149, 150, 151, 152, 153, 154, 411, 412, 57, 413, 388, 389, 390, 391, 392, 393, 121, 122, 123, 124, 125, 77, 78, 79, 80, 417, 418, 419, 420, 421, 422, 423, 427, 428, 429, 430, 431, 432, 433, 434, 435, 436, 437, 438, 439] (by decide +kernel) (by decide +kernel)) (goodIn_sub (fun _ h => List.mem_append_left _ (List.mem_append_left _ (List.mem_append_right _ h))) (by decide +kernel))
set_option maxRecDepth 20000 in
theorem gL_law_L_areUnits : GoodIn wsL_law (va_wsS RL 153 yL_areUnits wsL_areUnits) := goodIn_app (goodIn_of _ (by decide +kernel)) ggL_law_L_areUnits
set_option maxRecDepth 20000 in
theorem ggL_law_L_areRunning : GoodIn wsL_law wsL_areRunning := goodIn_ca (goodIn_r _ [416, 86, 87, 88, 2, 89, 12, 90, 91, 92, 93, 11, 94, 95, 96, 82, 83, 84, 22, 85, 54, 97, 98, 99, 100, 101, 102, 103, 104, 105, 106, 59, 60, 61, 62, 126, 127, 128, 129, 115, 116, 117, 118, 119, 120, 417, 418, 419, 420, 421, 422, 423, 427, 428, 429, 430, 431, 432, 433, 434, 435, 436, 437, 438, 439] (by decide +kernel) (by decide +kernel)) (goodIn_sub (fun _ h => List.mem_append_left _ (List.mem_append_left _ (List.mem_append_right _ h))) (by decide +kernel))
set_option maxRecDepth 20000 in
theorem gL_law_L_areRunning : GoodIn wsL_law (va_wsS RL 157 yL_areRunning wsL_areRunning) := goodIn_app (goodIn_of _ (by decide +kernel)) ggL_law_L_areRunning
