/-! THE START: what stays, out of the Statement's premises -/
def xFull : List (String × Nat × String × List Int32) := [(RX11, 342, "the tape has not so many bytes", [116, 104, 101, 32, 116, 97, 112, 101, 32, 104, 97, 115, 32, 110, 111, 116, 32, 115, 111, 32, 109, 97, 110, 121, 32, 98, 121, 116, 101, 115]), (RX11, 204, "no such what", [110, 111, 32, 115, 117, 99, 104, 32, 119, 104, 97, 116]), (RX11, 344, "no such field", [110, 111, 32, 115, 117, 99, 104, 32, 102, 105, 101, 108, 100]), (RX11, 209, "no such letter", [110, 111, 32, 115, 117, 99, 104, 32, 108, 101, 116, 116, 101, 114]), (RX11, 346, "no such leaf", [110, 111, 32, 115, 117, 99, 104, 32, 108, 101, 97, 102]), (RX11, 348, "no such entry", [110, 111, 32, 115, 117, 99, 104, 32, 101, 110, 116, 114, 121]), (RX11, 350, "no such record", [110, 111, 32, 115, 117, 99, 104, 32, 114, 101, 99, 111, 114, 100]), (RX11, 255, "the leaf isn't in the set", [116, 104, 101, 32, 108, 101, 97, 102, 32, 105, 115, 110, 39, 116, 32, 105, 110, 32, 116, 104, 101, 32, 115, 101, 116]), (RX11, 352, "no such set of leaves", [110, 111, 32, 115, 117, 99, 104, 32, 115, 101, 116, 32, 111, 102, 32, 108, 101, 97, 118, 101, 115]), (RX11, 262, "no such level", [110, 111, 32, 115, 117, 99, 104, 32, 108, 101, 118, 101, 108]), (RX11, 273, "no such byte", [110, 111, 32, 115, 117, 99, 104, 32, 98, 121, 116, 101]), (RX11, 282, "no such fold", [110, 111, 32, 115, 117, 99, 104, 32, 102, 111, 108, 100]), (RX11, 287, "no such pick", [110, 111, 32, 115, 117, 99, 104, 32, 112, 105, 99, 107]), (RX11, 293, "no such size of a page", [110, 111, 32, 115, 117, 99, 104, 32, 115, 105, 122, 101, 32, 111, 102, 32, 97, 32, 112, 97, 103, 101]), (RX11, 302, "no such value", [110, 111, 32, 115, 117, 99, 104, 32, 118, 97, 108, 117, 101]), (RX11, 326, "no such number of years", [110, 111, 32, 115, 117, 99, 104, 32, 110, 117, 109, 98, 101, 114, 32, 111, 102, 32, 121, 101, 97, 114, 115])]
def strWords (q : String × Nat × String × List Int32) : List Cond :=
  .exactly (.string q.1 q.2.1) "java/lang/String" :: .eq (.field (.string q.1 q.2.1) "java/lang/String" "coder" "B") (.int 0) :: .arrayOf (.field (.string q.1 q.2.1) "java/lang/String" "value" "[B") .byte :: .eq (.length (.field (.string q.1 q.2.1) "java/lang/String" "value" "[B")) (.int (Int32.ofNat q.2.2.2.length)) ::
    (List.range q.2.2.2.length).map (fun j => .eq (.elem (.field (.string q.1 q.2.1) "java/lang/String" "value" "[B") (.int (Int32.ofNat j))) (.int (q.2.2.2.getD j 0)))
abbrev gvC : Cond := Jvm.Cond.and given_1 narrow_1
theorem sw_of (ws : List Cond) (ps : List Nat) (h : ws = ps.filterMap (fun i => (flatC gvC)[i]?)) : ∀ w ∈ ws, w ∈ flatC gvC := by
  intro w hw
  rw [h] at hw
  obtain ⟨i, -, hi⟩ := List.mem_filterMap.mp hw
  exact List.mem_of_getElem? hi
theorem sw_0 : ∀ w ∈ strWords (RX6, 77, "one", [111, 110, 101]), w ∈ flatC gvC := sw_of _ [105, 106, 107, 108, 109, 110, 111] (by decide +kernel)
theorem sr_0 : Cond.stringRef RX6 77 "one" ∈ lw_tbl := List.mem_append_right _ (wall_c4 (List.mem_of_getElem? (i := 27) rfl))
theorem sw_1 : ∀ w ∈ strWords (RX6, 83, "maybe", [109, 97, 121, 98, 101]), w ∈ flatC gvC := sw_of _ [112, 113, 114, 115, 116, 117, 118, 119, 120] (by decide +kernel)
theorem sr_1 : Cond.stringRef RX6 83 "maybe" ∈ lw_tbl := List.mem_append_right _ (wall_c4 (List.mem_of_getElem? (i := 84) rfl))
theorem sw_2 : ∀ w ∈ strWords (RX6, 85, "many", [109, 97, 110, 121]), w ∈ flatC gvC := sw_of _ [121, 122, 123, 124, 125, 126, 127, 128] (by decide +kernel)
theorem sr_2 : Cond.stringRef RX6 85 "many" ∈ lw_tbl := List.mem_append_right _ (wall_c4 (List.mem_of_getElem? (i := 85) rfl))
theorem sw_3 : ∀ w ∈ strWords (RX3, 49, "plus", [112, 108, 117, 115]), w ∈ flatC gvC := sw_of _ [129, 130, 131, 132, 133, 134, 135, 136] (by decide +kernel)
theorem sr_3 : Cond.stringRef RX3 49 "plus" ∈ lw_tbl := List.mem_append_right _ (wall_c4 (List.mem_of_getElem? (i := 222) rfl))
theorem sw_4 : ∀ w ∈ strWords (RX3, 55, "times", [116, 105, 109, 101, 115]), w ∈ flatC gvC := sw_of _ [137, 138, 139, 140, 141, 142, 143, 144, 145] (by decide +kernel)
theorem sr_4 : Cond.stringRef RX3 55 "times" ∈ lw_tbl := List.mem_append_right _ (wall_c4 (List.mem_of_getElem? (i := 224) rfl))
theorem sw_5 : ∀ w ∈ strWords (RX3, 57, "mod", [109, 111, 100]), w ∈ flatC gvC := sw_of _ [146, 147, 148, 149, 150, 151, 152] (by decide +kernel)
theorem sr_5 : Cond.stringRef RX3 57 "mod" ∈ lw_tbl := List.mem_append_right _ (wall_c4 (List.mem_of_getElem? (i := 225) rfl))
theorem sw_6 : ∀ w ∈ strWords (RX3, 59, "less", [108, 101, 115, 115]), w ∈ flatC gvC := sw_of _ [153, 154, 155, 156, 157, 158, 159, 160] (by decide +kernel)
theorem sr_6 : Cond.stringRef RX3 59 "less" ∈ lw_tbl := List.mem_append_right _ (wall_c4 (List.mem_of_getElem? (i := 226) rfl))
theorem sw_7 : ∀ w ∈ strWords (RX3, 61, "more", [109, 111, 114, 101]), w ∈ flatC gvC := sw_of _ [161, 162, 163, 164, 165, 166, 167, 168] (by decide +kernel)
theorem sr_7 : Cond.stringRef RX3 61 "more" ∈ lw_tbl := List.mem_append_right _ (wall_c4 (List.mem_of_getElem? (i := 227) rfl))
theorem sw_8 : ∀ w ∈ strWords (RX3, 63, "first", [102, 105, 114, 115, 116]), w ∈ flatC gvC := sw_of _ [169, 170, 171, 172, 173, 174, 175, 176, 177] (by decide +kernel)
theorem sr_8 : Cond.stringRef RX3 63 "first" ∈ lw_tbl := List.mem_append_right _ (wall_c4 (List.mem_of_getElem? (i := 228) rfl))
theorem sw_9 : ∀ w ∈ strWords (RX3, 65, "gap", [103, 97, 112]), w ∈ flatC gvC := sw_of _ [178, 179, 180, 181, 182, 183, 184] (by decide +kernel)
theorem sr_9 : Cond.stringRef RX3 65 "gap" ∈ lw_tbl := List.mem_append_right _ (wall_c4 (List.mem_of_getElem? (i := 229) rfl))
theorem sw_10 : ∀ w ∈ strWords (RX12, 11, "one", [111, 110, 101]), w ∈ flatC gvC := sw_of _ [476, 477, 478, 479, 480, 481, 482] (by decide +kernel)
theorem sr_10 : Cond.stringRef RX12 11 "one" ∈ lw_tbl := List.mem_append_right _ (wall_c6 (List.mem_of_getElem? (i := 169) rfl))
theorem sw_11 : ∀ w ∈ strWords (RX12, 13, "maybe", [109, 97, 121, 98, 101]), w ∈ flatC gvC := sw_of _ [484, 485, 486, 487, 488, 489, 490, 491, 492] (by decide +kernel)
theorem sr_11 : Cond.stringRef RX12 13 "maybe" ∈ lw_tbl := List.mem_append_right _ (wall_c6 (List.mem_of_getElem? (i := 170) rfl))
theorem sw_12 : ∀ w ∈ strWords (RX12, 15, "many", [109, 97, 110, 121]), w ∈ flatC gvC := sw_of _ [494, 495, 496, 497, 498, 499, 500, 501] (by decide +kernel)
theorem sr_12 : Cond.stringRef RX12 15 "many" ∈ lw_tbl := List.mem_append_right _ (wall_c6 (List.mem_of_getElem? (i := 171) rfl))
theorem sw_13 : ∀ w ∈ strWords (RX12, 21, "plus", [112, 108, 117, 115]), w ∈ flatC gvC := sw_of _ [503, 504, 505, 506, 507, 508, 509, 510] (by decide +kernel)
theorem sr_13 : Cond.stringRef RX12 21 "plus" ∈ lw_tbl := List.mem_append_right _ (wall_c6 (List.mem_of_getElem? (i := 172) rfl))
theorem sw_14 : ∀ w ∈ strWords (RX12, 23, "times", [116, 105, 109, 101, 115]), w ∈ flatC gvC := sw_of _ [512, 513, 514, 515, 516, 517, 518, 519, 520] (by decide +kernel)
theorem sr_14 : Cond.stringRef RX12 23 "times" ∈ lw_tbl := List.mem_append_right _ (wall_c6 (List.mem_of_getElem? (i := 173) rfl))
theorem sw_15 : ∀ w ∈ strWords (RX12, 25, "mod", [109, 111, 100]), w ∈ flatC gvC := sw_of _ [522, 523, 524, 525, 526, 527, 528] (by decide +kernel)
theorem sr_15 : Cond.stringRef RX12 25 "mod" ∈ lw_tbl := List.mem_append_right _ (wall_c6 (List.mem_of_getElem? (i := 174) rfl))
theorem sw_16 : ∀ w ∈ strWords (RX12, 27, "less", [108, 101, 115, 115]), w ∈ flatC gvC := sw_of _ [530, 531, 532, 533, 534, 535, 536, 537] (by decide +kernel)
theorem sr_16 : Cond.stringRef RX12 27 "less" ∈ lw_tbl := List.mem_append_right _ (wall_c6 (List.mem_of_getElem? (i := 175) rfl))
theorem sw_17 : ∀ w ∈ strWords (RX12, 29, "more", [109, 111, 114, 101]), w ∈ flatC gvC := sw_of _ [539, 540, 541, 542, 543, 544, 545, 546] (by decide +kernel)
theorem sr_17 : Cond.stringRef RX12 29 "more" ∈ lw_tbl := List.mem_append_right _ (wall_c6 (List.mem_of_getElem? (i := 176) rfl))
theorem sw_18 : ∀ w ∈ strWords (RX12, 31, "first", [102, 105, 114, 115, 116]), w ∈ flatC gvC := sw_of _ [548, 549, 550, 551, 552, 553, 554, 555, 556] (by decide +kernel)
theorem sr_18 : Cond.stringRef RX12 31 "first" ∈ lw_tbl := List.mem_append_right _ (wall_c6 (List.mem_of_getElem? (i := 177) rfl))
theorem sw_19 : ∀ w ∈ strWords (RX12, 33, "gap", [103, 97, 112]), w ∈ flatC gvC := sw_of _ [558, 559, 560, 561, 562, 563, 564] (by decide +kernel)
theorem sr_19 : Cond.stringRef RX12 33 "gap" ∈ lw_tbl := List.mem_append_right _ (wall_c6 (List.mem_of_getElem? (i := 178) rfl))
theorem sw_20 : ∀ w ∈ strWords (RX11, 342, "the tape has not so many bytes", [116, 104, 101, 32, 116, 97, 112, 101, 32, 104, 97, 115, 32, 110, 111, 116, 32, 115, 111, 32, 109, 97, 110, 121, 32, 98, 121, 116, 101, 115]), w ∈ flatC gvC := sw_of _ [71, 72, 73, 74, 75, 76, 77, 78, 79, 80, 81, 82, 83, 84, 85, 86, 87, 88, 89, 90, 91, 92, 93, 94, 95, 96, 97, 98, 99, 100, 101, 102, 103, 104] (by decide +kernel)
theorem sr_20 : Cond.stringRef RX11 342 "the tape has not so many bytes" ∈ lw_tbl := List.mem_append_right _ (wall_c3 (List.mem_of_getElem? (i := 203) rfl))
theorem sw_21 : ∀ w ∈ strWords (RX11, 204, "no such what", [110, 111, 32, 115, 117, 99, 104, 32, 119, 104, 97, 116]), w ∈ flatC gvC := sw_of _ [185, 186, 187, 188, 189, 190, 191, 192, 193, 194, 195, 196, 197, 198, 199, 200] (by decide +kernel)
theorem sr_21 : Cond.stringRef RX11 204 "no such what" ∈ lw_tbl := List.mem_append_right _ (wall_c5 (List.mem_of_getElem? (i := 39) rfl))
theorem sw_22 : ∀ w ∈ strWords (RX11, 344, "no such field", [110, 111, 32, 115, 117, 99, 104, 32, 102, 105, 101, 108, 100]), w ∈ flatC gvC := sw_of _ [201, 202, 203, 204, 205, 206, 207, 208, 209, 210, 211, 212, 213, 214, 215, 216, 217] (by decide +kernel)
theorem sr_22 : Cond.stringRef RX11 344 "no such field" ∈ lw_tbl := List.mem_append_right _ (wall_c5 (List.mem_of_getElem? (i := 77) rfl))
theorem sw_23 : ∀ w ∈ strWords (RX11, 209, "no such letter", [110, 111, 32, 115, 117, 99, 104, 32, 108, 101, 116, 116, 101, 114]), w ∈ flatC gvC := sw_of _ [218, 219, 220, 221, 222, 223, 224, 225, 226, 227, 228, 229, 230, 231, 232, 233, 234, 235] (by decide +kernel)
theorem sr_23 : Cond.stringRef RX11 209 "no such letter" ∈ lw_tbl := List.mem_append_right _ (wall_c5 (List.mem_of_getElem? (i := 85) rfl))
theorem sw_24 : ∀ w ∈ strWords (RX11, 346, "no such leaf", [110, 111, 32, 115, 117, 99, 104, 32, 108, 101, 97, 102]), w ∈ flatC gvC := sw_of _ [236, 237, 238, 239, 240, 241, 242, 243, 244, 245, 246, 247, 248, 249, 250, 251] (by decide +kernel)
theorem sr_24 : Cond.stringRef RX11 346 "no such leaf" ∈ lw_tbl := List.mem_append_right _ (wall_c5 (List.mem_of_getElem? (i := 97) rfl))
theorem sw_25 : ∀ w ∈ strWords (RX11, 348, "no such entry", [110, 111, 32, 115, 117, 99, 104, 32, 101, 110, 116, 114, 121]), w ∈ flatC gvC := sw_of _ [252, 253, 254, 255, 256, 257, 258, 259, 260, 261, 262, 263, 264, 265, 266, 267, 268] (by decide +kernel)
theorem sr_25 : Cond.stringRef RX11 348 "no such entry" ∈ lw_tbl := List.mem_append_right _ (wall_c5 (List.mem_of_getElem? (i := 116) rfl))
theorem sw_26 : ∀ w ∈ strWords (RX11, 350, "no such record", [110, 111, 32, 115, 117, 99, 104, 32, 114, 101, 99, 111, 114, 100]), w ∈ flatC gvC := sw_of _ [269, 270, 271, 272, 273, 274, 275, 276, 277, 278, 279, 280, 281, 282, 283, 284, 285, 286] (by decide +kernel)
theorem sr_26 : Cond.stringRef RX11 350 "no such record" ∈ lw_tbl := List.mem_append_right _ (wall_c5 (List.mem_of_getElem? (i := 132) rfl))
theorem sw_27 : ∀ w ∈ strWords (RX11, 255, "the leaf isn't in the set", [116, 104, 101, 32, 108, 101, 97, 102, 32, 105, 115, 110, 39, 116, 32, 105, 110, 32, 116, 104, 101, 32, 115, 101, 116]), w ∈ flatC gvC := sw_of _ [287, 288, 289, 290, 291, 292, 293, 294, 295, 296, 297, 298, 299, 300, 301, 302, 303, 304, 305, 306, 307, 308, 309, 310, 311, 312, 313, 314, 315] (by decide +kernel)
theorem sr_27 : Cond.stringRef RX11 255 "the leaf isn't in the set" ∈ lw_tbl := List.mem_append_right _ (wall_c5 (List.mem_of_getElem? (i := 142) rfl))
theorem sw_28 : ∀ w ∈ strWords (RX11, 352, "no such set of leaves", [110, 111, 32, 115, 117, 99, 104, 32, 115, 101, 116, 32, 111, 102, 32, 108, 101, 97, 118, 101, 115]), w ∈ flatC gvC := sw_of _ [316, 317, 318, 319, 320, 321, 322, 323, 324, 325, 326, 327, 328, 329, 330, 331, 332, 333, 334, 335, 336, 337, 338, 339, 340] (by decide +kernel)
theorem sr_28 : Cond.stringRef RX11 352 "no such set of leaves" ∈ lw_tbl := List.mem_append_right _ (wall_c5 (List.mem_of_getElem? (i := 147) rfl))
theorem sw_29 : ∀ w ∈ strWords (RX11, 262, "no such level", [110, 111, 32, 115, 117, 99, 104, 32, 108, 101, 118, 101, 108]), w ∈ flatC gvC := sw_of _ [341, 342, 343, 344, 345, 346, 347, 348, 349, 350, 351, 352, 353, 354, 355, 356, 357] (by decide +kernel)
theorem sr_29 : Cond.stringRef RX11 262 "no such level" ∈ lw_tbl := List.mem_append_right _ (wall_c5 (List.mem_of_getElem? (i := 148) rfl))
theorem sw_30 : ∀ w ∈ strWords (RX11, 273, "no such byte", [110, 111, 32, 115, 117, 99, 104, 32, 98, 121, 116, 101]), w ∈ flatC gvC := sw_of _ [358, 359, 360, 361, 362, 363, 364, 365, 366, 367, 368, 369, 370, 371, 372, 373] (by decide +kernel)
theorem sr_30 : Cond.stringRef RX11 273 "no such byte" ∈ lw_tbl := List.mem_append_right _ (wall_c5 (List.mem_of_getElem? (i := 223) rfl))
theorem sw_31 : ∀ w ∈ strWords (RX11, 282, "no such fold", [110, 111, 32, 115, 117, 99, 104, 32, 102, 111, 108, 100]), w ∈ flatC gvC := sw_of _ [374, 375, 376, 377, 378, 379, 380, 381, 382, 383, 384, 385, 386, 387, 388, 389] (by decide +kernel)
theorem sr_31 : Cond.stringRef RX11 282 "no such fold" ∈ lw_tbl := List.mem_append_right _ (wall_c6 (List.mem_of_getElem? (i := 17) rfl))
theorem sw_32 : ∀ w ∈ strWords (RX11, 287, "no such pick", [110, 111, 32, 115, 117, 99, 104, 32, 112, 105, 99, 107]), w ∈ flatC gvC := sw_of _ [390, 391, 392, 393, 394, 395, 396, 397, 398, 399, 400, 401, 402, 403, 404, 405] (by decide +kernel)
theorem sr_32 : Cond.stringRef RX11 287 "no such pick" ∈ lw_tbl := List.mem_append_right _ (wall_c6 (List.mem_of_getElem? (i := 58) rfl))
theorem sw_33 : ∀ w ∈ strWords (RX11, 293, "no such size of a page", [110, 111, 32, 115, 117, 99, 104, 32, 115, 105, 122, 101, 32, 111, 102, 32, 97, 32, 112, 97, 103, 101]), w ∈ flatC gvC := sw_of _ [406, 407, 408, 409, 410, 411, 412, 413, 414, 415, 416, 417, 418, 419, 420, 421, 422, 423, 424, 425, 426, 427, 428, 429, 430, 431] (by decide +kernel)
theorem sr_33 : Cond.stringRef RX11 293 "no such size of a page" ∈ lw_tbl := List.mem_append_right _ (wall_c6 (List.mem_of_getElem? (i := 70) rfl))
theorem sw_34 : ∀ w ∈ strWords (RX11, 302, "no such value", [110, 111, 32, 115, 117, 99, 104, 32, 118, 97, 108, 117, 101]), w ∈ flatC gvC := sw_of _ [432, 433, 434, 435, 436, 437, 438, 439, 440, 441, 442, 443, 444, 445, 446, 447, 448] (by decide +kernel)
theorem sr_34 : Cond.stringRef RX11 302 "no such value" ∈ lw_tbl := List.mem_append_right _ (wall_c6 (List.mem_of_getElem? (i := 100) rfl))
theorem sw_35 : ∀ w ∈ strWords (RX11, 326, "no such number of years", [110, 111, 32, 115, 117, 99, 104, 32, 110, 117, 109, 98, 101, 114, 32, 111, 102, 32, 121, 101, 97, 114, 115]), w ∈ flatC gvC := sw_of _ [449, 450, 451, 452, 453, 454, 455, 456, 457, 458, 459, 460, 461, 462, 463, 464, 465, 466, 467, 468, 469, 470, 471, 472, 473, 474, 475] (by decide +kernel)
theorem sr_35 : Cond.stringRef RX11 326 "no such number of years" ∈ lw_tbl := List.mem_append_right _ (wall_c6 (List.mem_of_getElem? (i := 122) rfl))
theorem strAll : ∀ q ∈ sTab ++ xFull, ∀ w ∈ strWords q, w ∈ flatC gvC := List.forall_mem_cons.mpr ⟨sw_0, List.forall_mem_cons.mpr ⟨sw_1, List.forall_mem_cons.mpr ⟨sw_2, List.forall_mem_cons.mpr ⟨sw_3, List.forall_mem_cons.mpr ⟨sw_4, List.forall_mem_cons.mpr ⟨sw_5, List.forall_mem_cons.mpr ⟨sw_6, List.forall_mem_cons.mpr ⟨sw_7, List.forall_mem_cons.mpr ⟨sw_8, List.forall_mem_cons.mpr ⟨sw_9, List.forall_mem_cons.mpr ⟨sw_10, List.forall_mem_cons.mpr ⟨sw_11, List.forall_mem_cons.mpr ⟨sw_12, List.forall_mem_cons.mpr ⟨sw_13, List.forall_mem_cons.mpr ⟨sw_14, List.forall_mem_cons.mpr ⟨sw_15, List.forall_mem_cons.mpr ⟨sw_16, List.forall_mem_cons.mpr ⟨sw_17, List.forall_mem_cons.mpr ⟨sw_18, List.forall_mem_cons.mpr ⟨sw_19, List.forall_mem_cons.mpr ⟨sw_20, List.forall_mem_cons.mpr ⟨sw_21, List.forall_mem_cons.mpr ⟨sw_22, List.forall_mem_cons.mpr ⟨sw_23, List.forall_mem_cons.mpr ⟨sw_24, List.forall_mem_cons.mpr ⟨sw_25, List.forall_mem_cons.mpr ⟨sw_26, List.forall_mem_cons.mpr ⟨sw_27, List.forall_mem_cons.mpr ⟨sw_28, List.forall_mem_cons.mpr ⟨sw_29, List.forall_mem_cons.mpr ⟨sw_30, List.forall_mem_cons.mpr ⟨sw_31, List.forall_mem_cons.mpr ⟨sw_32, List.forall_mem_cons.mpr ⟨sw_33, List.forall_mem_cons.mpr ⟨sw_34, List.forall_mem_cons.mpr ⟨sw_35, fun _ h => absurd h List.not_mem_nil⟩⟩⟩⟩⟩⟩⟩⟩⟩⟩⟩⟩⟩⟩⟩⟩⟩⟩⟩⟩⟩⟩⟩⟩⟩⟩⟩⟩⟩⟩⟩⟩⟩⟩⟩⟩
theorem strRef : ∀ q ∈ sTab ++ xFull, Cond.stringRef q.1 q.2.1 q.2.2.1 ∈ lw_tbl := List.forall_mem_cons.mpr ⟨sr_0, List.forall_mem_cons.mpr ⟨sr_1, List.forall_mem_cons.mpr ⟨sr_2, List.forall_mem_cons.mpr ⟨sr_3, List.forall_mem_cons.mpr ⟨sr_4, List.forall_mem_cons.mpr ⟨sr_5, List.forall_mem_cons.mpr ⟨sr_6, List.forall_mem_cons.mpr ⟨sr_7, List.forall_mem_cons.mpr ⟨sr_8, List.forall_mem_cons.mpr ⟨sr_9, List.forall_mem_cons.mpr ⟨sr_10, List.forall_mem_cons.mpr ⟨sr_11, List.forall_mem_cons.mpr ⟨sr_12, List.forall_mem_cons.mpr ⟨sr_13, List.forall_mem_cons.mpr ⟨sr_14, List.forall_mem_cons.mpr ⟨sr_15, List.forall_mem_cons.mpr ⟨sr_16, List.forall_mem_cons.mpr ⟨sr_17, List.forall_mem_cons.mpr ⟨sr_18, List.forall_mem_cons.mpr ⟨sr_19, List.forall_mem_cons.mpr ⟨sr_20, List.forall_mem_cons.mpr ⟨sr_21, List.forall_mem_cons.mpr ⟨sr_22, List.forall_mem_cons.mpr ⟨sr_23, List.forall_mem_cons.mpr ⟨sr_24, List.forall_mem_cons.mpr ⟨sr_25, List.forall_mem_cons.mpr ⟨sr_26, List.forall_mem_cons.mpr ⟨sr_27, List.forall_mem_cons.mpr ⟨sr_28, List.forall_mem_cons.mpr ⟨sr_29, List.forall_mem_cons.mpr ⟨sr_30, List.forall_mem_cons.mpr ⟨sr_31, List.forall_mem_cons.mpr ⟨sr_32, List.forall_mem_cons.mpr ⟨sr_33, List.forall_mem_cons.mpr ⟨sr_34, List.forall_mem_cons.mpr ⟨sr_35, fun _ h => absurd h List.not_mem_nil⟩⟩⟩⟩⟩⟩⟩⟩⟩⟩⟩⟩⟩⟩⟩⟩⟩⟩⟩⟩⟩⟩⟩⟩⟩⟩⟩⟩⟩⟩⟩⟩⟩⟩⟩⟩
theorem strLen : ∀ q ∈ sTab ++ xFull, q.2.2.2.length < 100 := by decide +kernel
theorem st_text {s : State} {args : Array Value} {A : Nat → Prop} (hgv : gvC.before args s = true) (hts : ∀ w ∈ lw_tbl, w.before args s = true) (hA : ∀ a : Nat, a < s.heap.size → ¬ A a) {q : String × Nat × String × List Int32} (hq : q ∈ sTab ++ xFull) :
    ∃ ak av : Nat, vk_R q.1 q.2.1 q.2.2.1 ak s ∧ va_O "java/lang/String" ak A s s.heap ∧ va_OF "java/lang/String" "coder" "B" (.int 0) ak A s s.heap ∧ va_OF "java/lang/String" "value" "[B" (.ref av) ak A s s.heap ∧ va_T .byte av q.2.2.2.length (fun j => .int (q.2.2.2.getD j 0)) A s s.heap := by
  have hf := flat_of_before _ hgv
  have hw : ∀ w ∈ strWords q, w.before args s = true := fun w h => hf w (strAll q hq w h)
  obtain ⟨adK, adV, hS, hK⟩ := vk_Sof (args := args) (s := s) (N := 1) (tm := fun _ => Term.string q.1 q.2.1) (len := [q.2.2.2.length]) (byt := [q.2.2.2]) (A := A)
    (fun i hi => by
      have : i = 0 := by omega
      subst this
      have := strLen q hq
      show q.2.2.2.length < _
      omega) (fun _ _ => hw _ List.mem_cons_self) (fun _ _ => hw _ (List.mem_cons_of_mem _ List.mem_cons_self)) (fun _ _ => hw _ (List.mem_cons_of_mem _ (List.mem_cons_of_mem _ List.mem_cons_self)))
    (fun i hi => by
      have : i = 0 := by omega
      subst this
      exact hw _ (List.mem_cons_of_mem _ (List.mem_cons_of_mem _ (List.mem_cons_of_mem _ List.mem_cons_self))))
    (fun i hi j hj => by
      have : i = 0 := by omega
      subst this
      exact hw _ (List.mem_cons_of_mem _ (List.mem_cons_of_mem _ (List.mem_cons_of_mem _ (List.mem_cons_of_mem _ (List.mem_map.mpr ⟨j, List.mem_range.mpr hj, rfl⟩))))))
    (fun i j hi hj hne => absurd (show i = j by omega) hne) hA
  obtain ⟨h1, h2, h3, h4⟩ := hS.1 0 (by omega)
  exact ⟨adK 0, adV 0, vk_R.of (hts _ (strRef q hq)) (hK 0 (by omega)), h1, h2, h3, h4⟩
theorem st_arr {s : State} {args : Array Value} {ty : FieldType} (h : (Cond.arrayClass ty).before args s = true) (hty : ∀ C, ty ≠ .object C) : ∃ cA, ArrOfT s cA ty ∧ va_RA s cA ty := by
  obtain ⟨c, k, comp, h1, h2, h3⟩ := Cond.arrayClass_spec h
  refine ⟨c, fun n z => ⟨fun k h => (by cases h), k, h2, comp, h3⟩, ?_⟩
  cases ty with
  | object C => exact absurd rfl (hty C)
  | _ => exact h1
theorem st_over {s : State} {args : Array Value} {C : String} (h : (Cond.arrayOver (.object C)).before args s = true) : ∃ cA, ArrOfT s cA (.object C) ∧ va_RA s cA (.object C) := by
  obtain ⟨comp, c, k, h1, -, h3, h4, h5⟩ := Cond.arrayOver_spec h
  exact ⟨c, fun n z => ⟨fun k h => (by cases h), k, h3, comp, h4⟩, k, comp, h3, h4, h1, h5⟩
theorem st_over2 {s : State} {args : Array Value} (h : (Cond.arrayOver (.array .int)).before args s = true) : ∃ cA, ArrOfT s cA (.array .int) ∧ va_RA s cA (.array .int) := by
  obtain ⟨comp, c, k, -, -, h3, h4, h5⟩ := arrayOver_specB h
  exact ⟨c, fun n z => ⟨fun k h => (by cases h), k, h3, comp, h4⟩, h5⟩
