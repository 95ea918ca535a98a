section
/-! the texts and statics at the start -/
def pz_tm (i : Nat) : Term := Term.string (pz_ss.getD i ("", 0, "")).1 (pz_ss.getD i ("", 0, "")).2.1
def pz_x1 : List Nat := [35, 161, 170, 178, 188, 199, 213, 228, 243, 259, 276, 295, 315, 336, 357, 378, 402, 429, 455, 479, 505, 535, 563, 594, 625]
theorem pz_hg1 : ∀ i, i < 25 → Cond.exactly (pz_tm i) "java/lang/String" ∈ flatC (Jvm.Cond.and given_1 narrow_1) := by
  have key : ∀ i, i < 25 → (flatC (Jvm.Cond.and given_1 narrow_1))[pz_x1.getD i 0]? = some (Cond.exactly (pz_tm i) "java/lang/String") := by decide +kernel
  exact fun i hi => List.mem_of_getElem? (key i hi)
def pz_x2 : List Nat := [36, 162, 171, 179, 189, 200, 214, 229, 244, 260, 277, 296, 316, 337, 358, 379, 403, 430, 456, 480, 506, 536, 564, 595, 626]
theorem pz_hg2 : ∀ i, i < 25 → Cond.eq (.field (pz_tm i) "java/lang/String" "coder" "B") (.int 0) ∈ flatC (Jvm.Cond.and given_1 narrow_1) := by
  have key : ∀ i, i < 25 → (flatC (Jvm.Cond.and given_1 narrow_1))[pz_x2.getD i 0]? = some (Cond.eq (.field (pz_tm i) "java/lang/String" "coder" "B") (.int 0)) := by decide +kernel
  exact fun i hi => List.mem_of_getElem? (key i hi)
def pz_x3 : List Nat := [37, 163, 172, 180, 190, 201, 215, 230, 245, 261, 278, 297, 317, 338, 359, 380, 404, 431, 457, 481, 507, 537, 565, 596, 627]
theorem pz_hg3 : ∀ i, i < 25 → Cond.arrayOf (.field (pz_tm i) "java/lang/String" "value" "[B") .byte ∈ flatC (Jvm.Cond.and given_1 narrow_1) := by
  have key : ∀ i, i < 25 → (flatC (Jvm.Cond.and given_1 narrow_1))[pz_x3.getD i 0]? = some (Cond.arrayOf (.field (pz_tm i) "java/lang/String" "value" "[B") .byte) := by decide +kernel
  exact fun i hi => List.mem_of_getElem? (key i hi)
def pz_x4 : List Nat := [38, 164, 173, 181, 191, 202, 216, 231, 246, 262, 279, 298, 318, 339, 360, 381, 405, 432, 458, 482, 508, 538, 566, 597, 628]
theorem pz_hg4 : ∀ i, i < 25 → Cond.eq (.length (.field (pz_tm i) "java/lang/String" "value" "[B")) (.int (Int32.ofNat (pz_stl.getD i 0))) ∈ flatC (Jvm.Cond.and given_1 narrow_1) := by
  have key : ∀ i, i < 25 → (flatC (Jvm.Cond.and given_1 narrow_1))[pz_x4.getD i 0]? = some (Cond.eq (.length (.field (pz_tm i) "java/lang/String" "value" "[B")) (.int (Int32.ofNat (pz_stl.getD i 0)))) := by decide +kernel
  exact fun i hi => List.mem_of_getElem? (key i hi)
def pz_x5 : List (List Nat) := [[39, 40, 41, 42, 43, 44, 45, 46, 47, 48, 49, 50, 51, 52, 53, 54, 55, 56, 57, 58, 59, 60, 61, 62, 63, 64, 65, 66, 67, 68, 69, 70, 71, 72, 73, 74, 75, 76, 77, 78, 79, 80, 81, 82, 83, 84, 85, 86, 87, 88, 89, 90, 91, 92, 93, 94, 95, 96, 97, 98, 99, 100, 101, 102, 103, 104, 105, 106, 107, 108, 109, 110, 111, 112, 113, 114, 115, 116, 117, 118, 119, 120, 121, 122, 123, 124, 125, 126, 127, 128, 129, 130, 131, 132, 133, 134, 135, 136, 137, 138, 139, 140, 141, 142, 143, 144, 145, 146, 147, 148, 149, 150, 151, 152, 153, 154, 155, 156, 157, 158, 159, 160], [165, 166, 167, 168], [174, 175], [182, 183, 184], [192, 193, 194], [203, 204, 205, 206, 207], [217, 218, 219, 220, 221], [232, 233, 234, 235], [247, 248, 249, 250], [263, 264, 265, 266], [280, 281, 282, 283, 284], [299, 300, 301, 302, 303], [319, 320, 321, 322, 323], [340, 341, 342, 343], [361, 362, 363], [382, 383, 384, 385, 386], [406, 407, 408, 409, 410, 411, 412], [433, 434, 435, 436, 437], [459, 460], [483, 484, 485], [509, 510, 511, 512, 513, 514], [539, 540, 541], [567, 568, 569, 570, 571], [598, 599, 600, 601], [629, 630]]
theorem pz_hg5_0 : ∀ j, j < 122 → (flatC (Jvm.Cond.and given_1 narrow_1))[(pz_x5.getD 0 []).getD j 0]? = some (Cond.eq (.elem (.field (pz_tm 0) "java/lang/String" "value" "[B") (.int (Int32.ofNat j))) (.int ((pz_sb.getD 0 []).getD j 0))) := by decide +kernel
theorem pz_hg5_1 : ∀ j, j < 4 → (flatC (Jvm.Cond.and given_1 narrow_1))[(pz_x5.getD 1 []).getD j 0]? = some (Cond.eq (.elem (.field (pz_tm 1) "java/lang/String" "value" "[B") (.int (Int32.ofNat j))) (.int ((pz_sb.getD 1 []).getD j 0))) := by decide +kernel
theorem pz_hg5_2 : ∀ j, j < 2 → (flatC (Jvm.Cond.and given_1 narrow_1))[(pz_x5.getD 2 []).getD j 0]? = some (Cond.eq (.elem (.field (pz_tm 2) "java/lang/String" "value" "[B") (.int (Int32.ofNat j))) (.int ((pz_sb.getD 2 []).getD j 0))) := by decide +kernel
theorem pz_hg5_3 : ∀ j, j < 3 → (flatC (Jvm.Cond.and given_1 narrow_1))[(pz_x5.getD 3 []).getD j 0]? = some (Cond.eq (.elem (.field (pz_tm 3) "java/lang/String" "value" "[B") (.int (Int32.ofNat j))) (.int ((pz_sb.getD 3 []).getD j 0))) := by decide +kernel
theorem pz_hg5_4 : ∀ j, j < 3 → (flatC (Jvm.Cond.and given_1 narrow_1))[(pz_x5.getD 4 []).getD j 0]? = some (Cond.eq (.elem (.field (pz_tm 4) "java/lang/String" "value" "[B") (.int (Int32.ofNat j))) (.int ((pz_sb.getD 4 []).getD j 0))) := by decide +kernel
theorem pz_hg5_5 : ∀ j, j < 5 → (flatC (Jvm.Cond.and given_1 narrow_1))[(pz_x5.getD 5 []).getD j 0]? = some (Cond.eq (.elem (.field (pz_tm 5) "java/lang/String" "value" "[B") (.int (Int32.ofNat j))) (.int ((pz_sb.getD 5 []).getD j 0))) := by decide +kernel
theorem pz_hg5_6 : ∀ j, j < 5 → (flatC (Jvm.Cond.and given_1 narrow_1))[(pz_x5.getD 6 []).getD j 0]? = some (Cond.eq (.elem (.field (pz_tm 6) "java/lang/String" "value" "[B") (.int (Int32.ofNat j))) (.int ((pz_sb.getD 6 []).getD j 0))) := by decide +kernel
theorem pz_hg5_7 : ∀ j, j < 4 → (flatC (Jvm.Cond.and given_1 narrow_1))[(pz_x5.getD 7 []).getD j 0]? = some (Cond.eq (.elem (.field (pz_tm 7) "java/lang/String" "value" "[B") (.int (Int32.ofNat j))) (.int ((pz_sb.getD 7 []).getD j 0))) := by decide +kernel
theorem pz_hg5_8 : ∀ j, j < 4 → (flatC (Jvm.Cond.and given_1 narrow_1))[(pz_x5.getD 8 []).getD j 0]? = some (Cond.eq (.elem (.field (pz_tm 8) "java/lang/String" "value" "[B") (.int (Int32.ofNat j))) (.int ((pz_sb.getD 8 []).getD j 0))) := by decide +kernel
theorem pz_hg5_9 : ∀ j, j < 4 → (flatC (Jvm.Cond.and given_1 narrow_1))[(pz_x5.getD 9 []).getD j 0]? = some (Cond.eq (.elem (.field (pz_tm 9) "java/lang/String" "value" "[B") (.int (Int32.ofNat j))) (.int ((pz_sb.getD 9 []).getD j 0))) := by decide +kernel
theorem pz_hg5_10 : ∀ j, j < 5 → (flatC (Jvm.Cond.and given_1 narrow_1))[(pz_x5.getD 10 []).getD j 0]? = some (Cond.eq (.elem (.field (pz_tm 10) "java/lang/String" "value" "[B") (.int (Int32.ofNat j))) (.int ((pz_sb.getD 10 []).getD j 0))) := by decide +kernel
theorem pz_hg5_11 : ∀ j, j < 5 → (flatC (Jvm.Cond.and given_1 narrow_1))[(pz_x5.getD 11 []).getD j 0]? = some (Cond.eq (.elem (.field (pz_tm 11) "java/lang/String" "value" "[B") (.int (Int32.ofNat j))) (.int ((pz_sb.getD 11 []).getD j 0))) := by decide +kernel
theorem pz_hg5_12 : ∀ j, j < 5 → (flatC (Jvm.Cond.and given_1 narrow_1))[(pz_x5.getD 12 []).getD j 0]? = some (Cond.eq (.elem (.field (pz_tm 12) "java/lang/String" "value" "[B") (.int (Int32.ofNat j))) (.int ((pz_sb.getD 12 []).getD j 0))) := by decide +kernel
theorem pz_hg5_13 : ∀ j, j < 4 → (flatC (Jvm.Cond.and given_1 narrow_1))[(pz_x5.getD 13 []).getD j 0]? = some (Cond.eq (.elem (.field (pz_tm 13) "java/lang/String" "value" "[B") (.int (Int32.ofNat j))) (.int ((pz_sb.getD 13 []).getD j 0))) := by decide +kernel
theorem pz_hg5_14 : ∀ j, j < 3 → (flatC (Jvm.Cond.and given_1 narrow_1))[(pz_x5.getD 14 []).getD j 0]? = some (Cond.eq (.elem (.field (pz_tm 14) "java/lang/String" "value" "[B") (.int (Int32.ofNat j))) (.int ((pz_sb.getD 14 []).getD j 0))) := by decide +kernel
theorem pz_hg5_15 : ∀ j, j < 5 → (flatC (Jvm.Cond.and given_1 narrow_1))[(pz_x5.getD 15 []).getD j 0]? = some (Cond.eq (.elem (.field (pz_tm 15) "java/lang/String" "value" "[B") (.int (Int32.ofNat j))) (.int ((pz_sb.getD 15 []).getD j 0))) := by decide +kernel
theorem pz_hg5_16 : ∀ j, j < 7 → (flatC (Jvm.Cond.and given_1 narrow_1))[(pz_x5.getD 16 []).getD j 0]? = some (Cond.eq (.elem (.field (pz_tm 16) "java/lang/String" "value" "[B") (.int (Int32.ofNat j))) (.int ((pz_sb.getD 16 []).getD j 0))) := by decide +kernel
theorem pz_hg5_17 : ∀ j, j < 5 → (flatC (Jvm.Cond.and given_1 narrow_1))[(pz_x5.getD 17 []).getD j 0]? = some (Cond.eq (.elem (.field (pz_tm 17) "java/lang/String" "value" "[B") (.int (Int32.ofNat j))) (.int ((pz_sb.getD 17 []).getD j 0))) := by decide +kernel
theorem pz_hg5_18 : ∀ j, j < 2 → (flatC (Jvm.Cond.and given_1 narrow_1))[(pz_x5.getD 18 []).getD j 0]? = some (Cond.eq (.elem (.field (pz_tm 18) "java/lang/String" "value" "[B") (.int (Int32.ofNat j))) (.int ((pz_sb.getD 18 []).getD j 0))) := by decide +kernel
theorem pz_hg5_19 : ∀ j, j < 3 → (flatC (Jvm.Cond.and given_1 narrow_1))[(pz_x5.getD 19 []).getD j 0]? = some (Cond.eq (.elem (.field (pz_tm 19) "java/lang/String" "value" "[B") (.int (Int32.ofNat j))) (.int ((pz_sb.getD 19 []).getD j 0))) := by decide +kernel
theorem pz_hg5_20 : ∀ j, j < 6 → (flatC (Jvm.Cond.and given_1 narrow_1))[(pz_x5.getD 20 []).getD j 0]? = some (Cond.eq (.elem (.field (pz_tm 20) "java/lang/String" "value" "[B") (.int (Int32.ofNat j))) (.int ((pz_sb.getD 20 []).getD j 0))) := by decide +kernel
theorem pz_hg5_21 : ∀ j, j < 3 → (flatC (Jvm.Cond.and given_1 narrow_1))[(pz_x5.getD 21 []).getD j 0]? = some (Cond.eq (.elem (.field (pz_tm 21) "java/lang/String" "value" "[B") (.int (Int32.ofNat j))) (.int ((pz_sb.getD 21 []).getD j 0))) := by decide +kernel
theorem pz_hg5_22 : ∀ j, j < 5 → (flatC (Jvm.Cond.and given_1 narrow_1))[(pz_x5.getD 22 []).getD j 0]? = some (Cond.eq (.elem (.field (pz_tm 22) "java/lang/String" "value" "[B") (.int (Int32.ofNat j))) (.int ((pz_sb.getD 22 []).getD j 0))) := by decide +kernel
theorem pz_hg5_23 : ∀ j, j < 4 → (flatC (Jvm.Cond.and given_1 narrow_1))[(pz_x5.getD 23 []).getD j 0]? = some (Cond.eq (.elem (.field (pz_tm 23) "java/lang/String" "value" "[B") (.int (Int32.ofNat j))) (.int ((pz_sb.getD 23 []).getD j 0))) := by decide +kernel
theorem pz_hg5_24 : ∀ j, j < 2 → (flatC (Jvm.Cond.and given_1 narrow_1))[(pz_x5.getD 24 []).getD j 0]? = some (Cond.eq (.elem (.field (pz_tm 24) "java/lang/String" "value" "[B") (.int (Int32.ofNat j))) (.int ((pz_sb.getD 24 []).getD j 0))) := by decide +kernel
theorem pz_hg5 : ∀ i, i < 25 → ∀ j, j < pz_stl.getD i 0 → Cond.eq (.elem (.field (pz_tm i) "java/lang/String" "value" "[B") (.int (Int32.ofNat j))) (.int ((pz_sb.getD i []).getD j 0)) ∈ flatC (Jvm.Cond.and given_1 narrow_1) := by
  intro i hi j hj
  match i, hi with
  | 0, _ => exact List.mem_of_getElem? (pz_hg5_0 j hj)
  | 1, _ => exact List.mem_of_getElem? (pz_hg5_1 j hj)
  | 2, _ => exact List.mem_of_getElem? (pz_hg5_2 j hj)
  | 3, _ => exact List.mem_of_getElem? (pz_hg5_3 j hj)
  | 4, _ => exact List.mem_of_getElem? (pz_hg5_4 j hj)
  | 5, _ => exact List.mem_of_getElem? (pz_hg5_5 j hj)
  | 6, _ => exact List.mem_of_getElem? (pz_hg5_6 j hj)
  | 7, _ => exact List.mem_of_getElem? (pz_hg5_7 j hj)
  | 8, _ => exact List.mem_of_getElem? (pz_hg5_8 j hj)
  | 9, _ => exact List.mem_of_getElem? (pz_hg5_9 j hj)
  | 10, _ => exact List.mem_of_getElem? (pz_hg5_10 j hj)
  | 11, _ => exact List.mem_of_getElem? (pz_hg5_11 j hj)
  | 12, _ => exact List.mem_of_getElem? (pz_hg5_12 j hj)
  | 13, _ => exact List.mem_of_getElem? (pz_hg5_13 j hj)
  | 14, _ => exact List.mem_of_getElem? (pz_hg5_14 j hj)
  | 15, _ => exact List.mem_of_getElem? (pz_hg5_15 j hj)
  | 16, _ => exact List.mem_of_getElem? (pz_hg5_16 j hj)
  | 17, _ => exact List.mem_of_getElem? (pz_hg5_17 j hj)
  | 18, _ => exact List.mem_of_getElem? (pz_hg5_18 j hj)
  | 19, _ => exact List.mem_of_getElem? (pz_hg5_19 j hj)
  | 20, _ => exact List.mem_of_getElem? (pz_hg5_20 j hj)
  | 21, _ => exact List.mem_of_getElem? (pz_hg5_21 j hj)
  | 22, _ => exact List.mem_of_getElem? (pz_hg5_22 j hj)
  | 23, _ => exact List.mem_of_getElem? (pz_hg5_23 j hj)
  | 24, _ => exact List.mem_of_getElem? (pz_hg5_24 j hj)
  | n + 25, h => exact absurd h (by omega)
def pz_x6 : List (List Nat) := [[0, 169, 176, 185, 195, 208, 222, 236, 251, 267, 285, 304, 324, 344, 364, 387, 413, 438, 461, 486, 515, 542, 572, 602, 631], [169, 0, 177, 186, 196, 209, 223, 237, 252, 268, 286, 305, 325, 345, 365, 388, 414, 439, 462, 487, 516, 543, 573, 603, 632], [176, 177, 0, 187, 197, 210, 224, 238, 253, 269, 287, 306, 326, 346, 366, 389, 415, 440, 463, 488, 517, 544, 574, 604, 633], [185, 186, 187, 0, 198, 211, 225, 239, 254, 270, 288, 307, 327, 347, 367, 390, 416, 441, 464, 489, 518, 545, 575, 605, 634], [195, 196, 197, 198, 0, 212, 226, 240, 255, 271, 289, 308, 328, 348, 368, 391, 417, 442, 465, 490, 519, 546, 576, 606, 635], [208, 209, 210, 211, 212, 0, 227, 241, 256, 272, 290, 309, 329, 349, 369, 392, 418, 443, 466, 491, 520, 547, 577, 607, 636], [222, 223, 224, 225, 226, 227, 0, 242, 257, 273, 291, 310, 330, 350, 370, 393, 419, 444, 467, 492, 521, 548, 578, 608, 637], [236, 237, 238, 239, 240, 241, 242, 0, 258, 274, 292, 311, 331, 351, 371, 394, 420, 445, 468, 493, 522, 549, 579, 609, 638], [251, 252, 253, 254, 255, 256, 257, 258, 0, 275, 293, 312, 332, 352, 372, 395, 421, 446, 469, 494, 523, 550, 580, 610, 639], [267, 268, 269, 270, 271, 272, 273, 274, 275, 0, 294, 313, 333, 353, 373, 396, 422, 447, 470, 495, 524, 551, 581, 611, 640], [285, 286, 287, 288, 289, 290, 291, 292, 293, 294, 0, 314, 334, 354, 374, 397, 423, 448, 471, 496, 525, 552, 582, 612, 641], [304, 305, 306, 307, 308, 309, 310, 311, 312, 313, 314, 0, 335, 355, 375, 398, 424, 449, 472, 497, 526, 553, 583, 613, 642], [324, 325, 326, 327, 328, 329, 330, 331, 332, 333, 334, 335, 0, 356, 376, 399, 425, 450, 473, 498, 527, 554, 584, 614, 643], [344, 345, 346, 347, 348, 349, 350, 351, 352, 353, 354, 355, 356, 0, 377, 400, 426, 451, 474, 499, 528, 555, 585, 615, 644], [364, 365, 366, 367, 368, 369, 370, 371, 372, 373, 374, 375, 376, 377, 0, 401, 427, 452, 475, 500, 529, 556, 586, 616, 645], [387, 388, 389, 390, 391, 392, 393, 394, 395, 396, 397, 398, 399, 400, 401, 0, 428, 453, 476, 501, 530, 557, 587, 617, 646], [413, 414, 415, 416, 417, 418, 419, 420, 421, 422, 423, 424, 425, 426, 427, 428, 0, 454, 477, 502, 531, 558, 588, 618, 647], [438, 439, 440, 441, 442, 443, 444, 445, 446, 447, 448, 449, 450, 451, 452, 453, 454, 0, 478, 503, 532, 559, 589, 619, 648], [461, 462, 463, 464, 465, 466, 467, 468, 469, 470, 471, 472, 473, 474, 475, 476, 477, 478, 0, 504, 533, 560, 590, 620, 649], [486, 487, 488, 489, 490, 491, 492, 493, 494, 495, 496, 497, 498, 499, 500, 501, 502, 503, 504, 0, 534, 561, 591, 621, 650], [515, 516, 517, 518, 519, 520, 521, 522, 523, 524, 525, 526, 527, 528, 529, 530, 531, 532, 533, 534, 0, 562, 592, 622, 651], [542, 543, 544, 545, 546, 547, 548, 549, 550, 551, 552, 553, 554, 555, 556, 557, 558, 559, 560, 561, 562, 0, 593, 623, 652], [572, 573, 574, 575, 576, 577, 578, 579, 580, 581, 582, 583, 584, 585, 586, 587, 588, 589, 590, 591, 592, 593, 0, 624, 653], [602, 603, 604, 605, 606, 607, 608, 609, 610, 611, 612, 613, 614, 615, 616, 617, 618, 619, 620, 621, 622, 623, 624, 0, 654], [631, 632, 633, 634, 635, 636, 637, 638, 639, 640, 641, 642, 643, 644, 645, 646, 647, 648, 649, 650, 651, 652, 653, 654, 0]]
theorem pz_hg6_0 : ∀ j, j < 25 → 0 < j → (flatC (Jvm.Cond.and given_1 narrow_1))[(pz_x6.getD 0 []).getD j 0]? = some (Cond.not (Cond.eq (pz_tm 0) (pz_tm j))) := by decide +kernel
theorem pz_hg6_1 : ∀ j, j < 25 → 1 < j → (flatC (Jvm.Cond.and given_1 narrow_1))[(pz_x6.getD 1 []).getD j 0]? = some (Cond.not (Cond.eq (pz_tm 1) (pz_tm j))) := by decide +kernel
theorem pz_hg6_2 : ∀ j, j < 25 → 2 < j → (flatC (Jvm.Cond.and given_1 narrow_1))[(pz_x6.getD 2 []).getD j 0]? = some (Cond.not (Cond.eq (pz_tm 2) (pz_tm j))) := by decide +kernel
theorem pz_hg6_3 : ∀ j, j < 25 → 3 < j → (flatC (Jvm.Cond.and given_1 narrow_1))[(pz_x6.getD 3 []).getD j 0]? = some (Cond.not (Cond.eq (pz_tm 3) (pz_tm j))) := by decide +kernel
theorem pz_hg6_4 : ∀ j, j < 25 → 4 < j → (flatC (Jvm.Cond.and given_1 narrow_1))[(pz_x6.getD 4 []).getD j 0]? = some (Cond.not (Cond.eq (pz_tm 4) (pz_tm j))) := by decide +kernel
theorem pz_hg6_5 : ∀ j, j < 25 → 5 < j → (flatC (Jvm.Cond.and given_1 narrow_1))[(pz_x6.getD 5 []).getD j 0]? = some (Cond.not (Cond.eq (pz_tm 5) (pz_tm j))) := by decide +kernel
theorem pz_hg6_6 : ∀ j, j < 25 → 6 < j → (flatC (Jvm.Cond.and given_1 narrow_1))[(pz_x6.getD 6 []).getD j 0]? = some (Cond.not (Cond.eq (pz_tm 6) (pz_tm j))) := by decide +kernel
theorem pz_hg6_7 : ∀ j, j < 25 → 7 < j → (flatC (Jvm.Cond.and given_1 narrow_1))[(pz_x6.getD 7 []).getD j 0]? = some (Cond.not (Cond.eq (pz_tm 7) (pz_tm j))) := by decide +kernel
theorem pz_hg6_8 : ∀ j, j < 25 → 8 < j → (flatC (Jvm.Cond.and given_1 narrow_1))[(pz_x6.getD 8 []).getD j 0]? = some (Cond.not (Cond.eq (pz_tm 8) (pz_tm j))) := by decide +kernel
theorem pz_hg6_9 : ∀ j, j < 25 → 9 < j → (flatC (Jvm.Cond.and given_1 narrow_1))[(pz_x6.getD 9 []).getD j 0]? = some (Cond.not (Cond.eq (pz_tm 9) (pz_tm j))) := by decide +kernel
theorem pz_hg6_10 : ∀ j, j < 25 → 10 < j → (flatC (Jvm.Cond.and given_1 narrow_1))[(pz_x6.getD 10 []).getD j 0]? = some (Cond.not (Cond.eq (pz_tm 10) (pz_tm j))) := by decide +kernel
theorem pz_hg6_11 : ∀ j, j < 25 → 11 < j → (flatC (Jvm.Cond.and given_1 narrow_1))[(pz_x6.getD 11 []).getD j 0]? = some (Cond.not (Cond.eq (pz_tm 11) (pz_tm j))) := by decide +kernel
theorem pz_hg6_12 : ∀ j, j < 25 → 12 < j → (flatC (Jvm.Cond.and given_1 narrow_1))[(pz_x6.getD 12 []).getD j 0]? = some (Cond.not (Cond.eq (pz_tm 12) (pz_tm j))) := by decide +kernel
theorem pz_hg6_13 : ∀ j, j < 25 → 13 < j → (flatC (Jvm.Cond.and given_1 narrow_1))[(pz_x6.getD 13 []).getD j 0]? = some (Cond.not (Cond.eq (pz_tm 13) (pz_tm j))) := by decide +kernel
theorem pz_hg6_14 : ∀ j, j < 25 → 14 < j → (flatC (Jvm.Cond.and given_1 narrow_1))[(pz_x6.getD 14 []).getD j 0]? = some (Cond.not (Cond.eq (pz_tm 14) (pz_tm j))) := by decide +kernel
theorem pz_hg6_15 : ∀ j, j < 25 → 15 < j → (flatC (Jvm.Cond.and given_1 narrow_1))[(pz_x6.getD 15 []).getD j 0]? = some (Cond.not (Cond.eq (pz_tm 15) (pz_tm j))) := by decide +kernel
theorem pz_hg6_16 : ∀ j, j < 25 → 16 < j → (flatC (Jvm.Cond.and given_1 narrow_1))[(pz_x6.getD 16 []).getD j 0]? = some (Cond.not (Cond.eq (pz_tm 16) (pz_tm j))) := by decide +kernel
theorem pz_hg6_17 : ∀ j, j < 25 → 17 < j → (flatC (Jvm.Cond.and given_1 narrow_1))[(pz_x6.getD 17 []).getD j 0]? = some (Cond.not (Cond.eq (pz_tm 17) (pz_tm j))) := by decide +kernel
theorem pz_hg6_18 : ∀ j, j < 25 → 18 < j → (flatC (Jvm.Cond.and given_1 narrow_1))[(pz_x6.getD 18 []).getD j 0]? = some (Cond.not (Cond.eq (pz_tm 18) (pz_tm j))) := by decide +kernel
theorem pz_hg6_19 : ∀ j, j < 25 → 19 < j → (flatC (Jvm.Cond.and given_1 narrow_1))[(pz_x6.getD 19 []).getD j 0]? = some (Cond.not (Cond.eq (pz_tm 19) (pz_tm j))) := by decide +kernel
theorem pz_hg6_20 : ∀ j, j < 25 → 20 < j → (flatC (Jvm.Cond.and given_1 narrow_1))[(pz_x6.getD 20 []).getD j 0]? = some (Cond.not (Cond.eq (pz_tm 20) (pz_tm j))) := by decide +kernel
theorem pz_hg6_21 : ∀ j, j < 25 → 21 < j → (flatC (Jvm.Cond.and given_1 narrow_1))[(pz_x6.getD 21 []).getD j 0]? = some (Cond.not (Cond.eq (pz_tm 21) (pz_tm j))) := by decide +kernel
theorem pz_hg6_22 : ∀ j, j < 25 → 22 < j → (flatC (Jvm.Cond.and given_1 narrow_1))[(pz_x6.getD 22 []).getD j 0]? = some (Cond.not (Cond.eq (pz_tm 22) (pz_tm j))) := by decide +kernel
theorem pz_hg6_23 : ∀ j, j < 25 → 23 < j → (flatC (Jvm.Cond.and given_1 narrow_1))[(pz_x6.getD 23 []).getD j 0]? = some (Cond.not (Cond.eq (pz_tm 23) (pz_tm j))) := by decide +kernel
theorem pz_hg6_24 : ∀ j, j < 25 → 24 < j → (flatC (Jvm.Cond.and given_1 narrow_1))[(pz_x6.getD 24 []).getD j 0]? = some (Cond.not (Cond.eq (pz_tm 24) (pz_tm j))) := by decide +kernel
theorem pz_hg6a : ∀ i, i < 25 → ∀ j, j < 25 → i < j → Cond.not (Cond.eq (pz_tm i) (pz_tm j)) ∈ flatC (Jvm.Cond.and given_1 narrow_1) := by
  intro i hi j hj hij
  match i, hi with
  | 0, _ => exact List.mem_of_getElem? (pz_hg6_0 j hj hij)
  | 1, _ => exact List.mem_of_getElem? (pz_hg6_1 j hj hij)
  | 2, _ => exact List.mem_of_getElem? (pz_hg6_2 j hj hij)
  | 3, _ => exact List.mem_of_getElem? (pz_hg6_3 j hj hij)
  | 4, _ => exact List.mem_of_getElem? (pz_hg6_4 j hj hij)
  | 5, _ => exact List.mem_of_getElem? (pz_hg6_5 j hj hij)
  | 6, _ => exact List.mem_of_getElem? (pz_hg6_6 j hj hij)
  | 7, _ => exact List.mem_of_getElem? (pz_hg6_7 j hj hij)
  | 8, _ => exact List.mem_of_getElem? (pz_hg6_8 j hj hij)
  | 9, _ => exact List.mem_of_getElem? (pz_hg6_9 j hj hij)
  | 10, _ => exact List.mem_of_getElem? (pz_hg6_10 j hj hij)
  | 11, _ => exact List.mem_of_getElem? (pz_hg6_11 j hj hij)
  | 12, _ => exact List.mem_of_getElem? (pz_hg6_12 j hj hij)
  | 13, _ => exact List.mem_of_getElem? (pz_hg6_13 j hj hij)
  | 14, _ => exact List.mem_of_getElem? (pz_hg6_14 j hj hij)
  | 15, _ => exact List.mem_of_getElem? (pz_hg6_15 j hj hij)
  | 16, _ => exact List.mem_of_getElem? (pz_hg6_16 j hj hij)
  | 17, _ => exact List.mem_of_getElem? (pz_hg6_17 j hj hij)
  | 18, _ => exact List.mem_of_getElem? (pz_hg6_18 j hj hij)
  | 19, _ => exact List.mem_of_getElem? (pz_hg6_19 j hj hij)
  | 20, _ => exact List.mem_of_getElem? (pz_hg6_20 j hj hij)
  | 21, _ => exact List.mem_of_getElem? (pz_hg6_21 j hj hij)
  | 22, _ => exact List.mem_of_getElem? (pz_hg6_22 j hj hij)
  | 23, _ => exact List.mem_of_getElem? (pz_hg6_23 j hj hij)
  | 24, _ => exact List.mem_of_getElem? (pz_hg6_24 j hj hij)
  | n + 25, h => exact absurd h (by omega)
theorem pz_hg6 : ∀ i, i < 25 → ∀ j, j < 25 → i = j ∨ Cond.not (Cond.eq (pz_tm i) (pz_tm j)) ∈ flatC (Jvm.Cond.and given_1 narrow_1) ∨ Cond.not (Cond.eq (pz_tm j) (pz_tm i)) ∈ flatC (Jvm.Cond.and given_1 narrow_1) := by
  intro i hi j hj
  rcases Nat.lt_trichotomy i j with h | h | h
  · exact Or.inr (Or.inl (pz_hg6a i hi j hj h))
  · exact Or.inl h
  · exact Or.inr (Or.inr (pz_hg6a j hj i hi h))
theorem pz_hg7 : ∀ i, i < 25 → Cond.stringRef (pz_ss.getD i ("", 0, "")).1 (pz_ss.getD i ("", 0, "")).2.1 (pz_ss.getD i ("", 0, "")).2.2 ∈ lw_tbl := by decide +kernel
theorem pz_len25 : ∀ i, i < 25 → pz_stl.getD i 0 < 2 ^ 31 := by decide +kernel
theorem pz_start {s : State} {b : Nat} {A : Nat → Prop} (hts : ∀ w ∈ lw_tbl, w.before #[Value.ref b] s = true) (hgv : (Jvm.Cond.and given_1 narrow_1).before #[Value.ref b] s = true) (hA : ∀ a : Nat, a < s.heap.size → ¬ A a) :
    ∃ adK adV : Nat → Nat, ∀ ad : Nat → Nat, (∀ i, i < 25 → ad (206 + i) = adK i) → pz_S ad adV A s s.heap := by
  have hs := flat_of_before _ hgv
  obtain ⟨adK, adV, h1, h2⟩ := vk_Sof (args := #[Value.ref b]) (s := s) (N := 25) (tm := pz_tm) (len := pz_stl) (byt := pz_sb) (A := A) pz_len25 (fun i hi => hs _ (pz_hg1 i hi)) (fun i hi => hs _ (pz_hg2 i hi)) (fun i hi => hs _ (pz_hg3 i hi)) (fun i hi => hs _ (pz_hg4 i hi)) (fun i hi j hj => hs _ (pz_hg5 i hi j hj))
    (fun i j hi hj hij => by
      rcases pz_hg6 i hi j hj with h | h | h
      · exact absurd h hij
      · exact Or.inl (hs _ h)
      · exact Or.inr (hs _ h)) hA
  refine ⟨adK, adV, fun ad had => ⟨⟨fun i hi => ?_, fun i j hi hj he => ?_⟩, fun i q hq => ?_, ⟨va_Zof (hts _ (by decide +kernel)) (hts _ (by decide +kernel)) (va_eqt (hs (.eq (.static "java/lang/String" "COMPACT_STRINGS" "Z") (.int 1)) (by decide +kernel))) hA, va_Zqof (hts _ (by decide +kernel)) (hts _ (by decide +kernel)) (hs _ (by decide +kernel)) hA⟩, va_Nw.of rfl (hts (.methodLinkNest RX1 35 yX11_within "TwelveChain") (by decide +kernel))⟩⟩
  · show va_O _ (ad (206 + i)) _ _ _ ∧ va_OF _ _ _ _ (ad (206 + i)) _ _ _ ∧ va_OF _ _ _ _ (ad (206 + i)) _ _ _ ∧ _
    rw [had i hi]
    exact h1.1 i hi
  · have he : ad (206 + i) = ad (206 + j) := he
    rw [had i hi, had j hj] at he
    exact h1.2 i j hi hj he
  · have hi : i < 25 := (List.getElem?_eq_some_iff.mp hq).1
    rw [had i hi]
    have e : q = pz_ss.getD i ("", 0, "") := by rw [List.getD_eq_getElem?_getD, hq]; rfl
    subst e
    have w := hts _ (pz_hg7 i hi)
    exact vk_R.of w (h2 i hi)
end
