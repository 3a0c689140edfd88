/-! The law's start: the words of the tables, the world that the constructors make; the claim. -/
theorem jidx_tbl {ws big : List Cond} (js : List Nat) (h : ws.map some = js.map (fun i => big[i]?)) : ∀ w ∈ ws, w ∈ big := by
  intro w hw
  have h1 : some w ∈ ws.map some := List.mem_map.mpr ⟨w, hw, rfl⟩
  rw [h] at h1
  obtain ⟨i, -, hi⟩ := List.mem_map.mp h1
  exact List.mem_of_getElem? hi
theorem jW0_tbl : ∀ w ∈ jW0, w ∈ lw_tbl := jidx_tbl [0, 1, 2, 3, 4, 5, 6, 7, 8, 9, 10, 11, 12, 13, 14, 16, 17, 18, 19, 20, 21, 22, 23, 24, 25, 26, 27, 28, 29, 30, 31, 32, 33, 34, 35, 36, 37, 38, 39, 40, 41, 42, 43, 44, 45, 46, 47, 48, 49, 50, 51, 52, 53, 54, 55, 56, 57, 58, 59, 60] (by decide +kernel)
theorem jW1_tbl : ∀ w ∈ jW1, w ∈ lw_tbl := jidx_tbl [61, 62, 63, 64, 65, 66, 68, 69, 70, 71, 72, 73, 74, 75, 76, 77, 78, 79, 80, 81, 82, 83, 84, 85, 86, 87, 88, 89, 90, 91, 92, 93, 94, 95, 96, 97, 98, 99, 100, 101, 102, 103, 104, 105, 107, 109, 111, 113, 115, 117, 119, 121, 123, 125, 127, 130, 131, 132, 134, 135] (by decide +kernel)
theorem jW2_tbl : ∀ w ∈ jW2, w ∈ lw_tbl := jidx_tbl [136, 137, 138, 139, 140, 141, 142, 143, 144, 145, 146, 148, 150, 153, 154, 156, 157, 158, 159, 160, 161, 162, 163, 164, 165, 167, 169, 171, 173, 176, 177, 179, 180, 181, 182, 183, 184, 185, 186, 187, 188, 189, 191, 193, 195, 197, 200, 201, 202, 203, 204, 206, 208, 210, 213, 214, 215, 216, 217, 218] (by decide +kernel)
theorem jW3_tbl : ∀ w ∈ jW3, w ∈ lw_tbl := jidx_tbl [219, 220, 221, 222, 223, 224, 225, 226, 227, 228, 229, 230, 231, 232, 233, 234, 235, 236, 237, 238, 239, 240, 242, 243, 244, 245, 246, 248, 249, 250, 251, 252, 253, 254, 256, 257, 258, 259, 260, 261, 262, 264, 265, 266, 267, 268, 269, 270, 271, 272, 273, 274, 275, 276, 277, 278, 280, 281, 282, 284] (by decide +kernel)
theorem jW4_tbl : ∀ w ∈ jW4, w ∈ lw_tbl := jidx_tbl [285, 287, 288, 289, 290, 291, 292, 294, 296, 297, 299, 300, 301, 302, 303, 304, 305, 307, 308, 309, 310, 311, 312, 313, 314, 316, 317, 318, 319, 320, 321, 322, 323, 324, 325, 326, 327, 328, 329, 330, 331, 332, 333, 334, 335, 336, 337, 338, 339, 340, 341, 342, 343, 344, 346, 347, 348, 349, 350, 351] (by decide +kernel)
theorem jW5_tbl : ∀ w ∈ jW5, w ∈ lw_tbl := jidx_tbl [353, 354, 355, 357, 358, 359, 361, 362, 364, 365, 366, 367, 369, 370, 372, 373, 374, 376, 377, 378, 380, 381, 382, 384, 385, 386, 387, 388, 389, 390, 391, 392, 393, 394, 395, 396, 397, 398, 399, 400, 401, 402, 403, 404, 406, 407, 408, 409, 410, 411, 412, 413, 414, 415, 416, 417, 419, 420, 421, 422] (by decide +kernel)
theorem jW6_tbl : ∀ w ∈ jW6, w ∈ lw_tbl := jidx_tbl [423, 424, 425, 426, 427, 435, 436, 437, 438, 439, 440, 441, 442, 443, 444, 445, 446, 447, 449, 450, 451, 452, 454, 456, 457, 459, 460, 461, 463, 465, 466, 468, 469, 470, 471, 472, 473, 474, 475, 476, 477, 479, 480, 481, 486, 490, 491, 492, 493, 494, 495, 497, 498, 499, 500, 501, 502, 503, 504, 505] (by decide +kernel)
theorem jW7_tbl : ∀ w ∈ jW7, w ∈ lw_tbl := jidx_tbl [506, 507, 509, 510, 512, 513, 514, 515, 516, 517, 518, 519, 520, 521, 522, 524, 525, 526, 527, 528, 529, 531, 532, 533, 534, 535, 536, 537, 538, 539, 540, 541, 543, 544, 545, 546, 547, 548, 549, 550, 551, 552, 553, 555, 556, 557, 558, 559, 560, 562, 563, 564, 565, 566, 567, 568, 569, 570, 571, 572] (by decide +kernel)
theorem jW8_tbl : ∀ w ∈ jW8, w ∈ lw_tbl := jidx_tbl [573, 574, 575, 576, 577, 578, 579, 580, 581, 582, 583, 584, 585, 586, 587, 588, 589, 590, 591, 592, 593, 594, 596, 598, 600, 602, 604, 606, 608, 610, 612, 614, 616, 618, 620, 622, 624, 626, 628, 631, 632, 633, 634, 635, 636, 637, 638, 639, 640, 641, 642, 643, 644, 645, 646, 648, 649, 650, 651, 652] (by decide +kernel)
theorem jW9_tbl : ∀ w ∈ jW9, w ∈ lw_tbl := jidx_tbl [653, 654, 656, 657, 658, 659, 660, 661, 662, 664, 665, 666, 667, 668, 669, 670, 671, 672, 673, 674, 675, 676, 677, 678, 679, 680, 681, 682, 683, 684, 685, 686, 688, 689, 690, 692, 693, 694, 696, 697, 698, 700, 701, 702, 704, 705, 706, 708, 709, 710, 711, 712, 713, 714, 716, 717, 718, 720, 721, 722] (by decide +kernel)
theorem jW10_tbl : ∀ w ∈ jW10, w ∈ lw_tbl := jidx_tbl [724, 725, 726, 728, 729, 730, 732, 733, 734, 735, 736, 737, 739, 740, 741, 742, 743, 744, 745, 746, 747, 748, 749, 751, 752, 753, 755, 756, 757, 758, 759, 760, 761, 762, 763, 764, 765, 767, 768, 769, 771, 772, 773, 775, 776, 777, 778, 779, 780, 781, 782, 783, 784, 785, 418, 530, 561] (by decide +kernel)
theorem jW_tbl : ∀ w ∈ jW, w ∈ lw_tbl := List.forall_mem_append.mpr ⟨jW0_tbl, List.forall_mem_append.mpr ⟨jW1_tbl, List.forall_mem_append.mpr ⟨jW2_tbl, List.forall_mem_append.mpr ⟨jW3_tbl, List.forall_mem_append.mpr ⟨jW4_tbl, List.forall_mem_append.mpr ⟨jW5_tbl, List.forall_mem_append.mpr ⟨jW6_tbl, List.forall_mem_append.mpr ⟨jW7_tbl, List.forall_mem_append.mpr ⟨jW8_tbl, List.forall_mem_append.mpr ⟨jW9_tbl, jW10_tbl⟩⟩⟩⟩⟩⟩⟩⟩⟩⟩
theorem jxnst_tbl : ∀ w ∈ jxnst, w ∈ lw_tbl := jidx_tbl [133, 155, 178, 247, 286, 293, 298, 352, 363, 368, 405] (by decide +kernel)
theorem jxnst_face : ∀ w ∈ jxnst, w.onTables = true := by decide +kernel
theorem jAO_tbl : Cond.arrayOver (.array .int) ∈ lw_tbl := List.mem_of_getElem? (i := 67) (by decide +kernel)
def jtW : List (Nat × Nat) := (0, 0) :: (jtJ ++ ((40, 0) :: (jtM ++ [(60, 0)])))
def adW (z b : Nat) : Nat → Nat → Nat := fun g r => if g = 61 then b else z + jtW.idxOf (g, r)
def jpW : Nat → Nat → Prop := fun g r => r < jrwJ g ∨ r < jrwM g ∨ (g = 60 ∧ r = 0)
theorem adW_at (z b : Nat) : ∀ i q, jtW[i]? = some q → adW z b q.1 q.2 = z + i := by
  intro i q h
  have hi : i < 63 := (List.getElem?_eq_some_iff.mp h).1
  have key : ∀ i, i < 63 → (jtW[i]?).all (fun q => decide (q.1 ≠ 61) && decide (jtW.idxOf q = i)) = true := by decide +kernel
  have k := key i hi
  rw [h] at k
  simp only [Option.all_some, Bool.and_eq_true, decide_eq_true_eq] at k
  unfold adW
  rw [if_neg k.1]
  show z + jtW.idxOf q = z + i
  rw [k.2]
theorem jpW_cov {g r : Nat} (h : jpW g r) : (g, r) ∈ jtW := by
  rcases h with h | h | ⟨rfl, rfl⟩
  · rcases jtJ_cov g r h with z | z
    · rw [z]; decide
    · exact (by decide +kernel : ∀ q ∈ jtJ, q ∈ jtW) _ z
  · rcases jtM_cov g r h with z | z
    · rw [z]; decide
    · exact (by decide +kernel : ∀ q ∈ jtM, q ∈ jtW) _ z
  · decide
theorem jMJ {g : Nat} (h : 0 < jrwM g) : ¬ 0 < jrwJ g := by
  unfold jrwM at h
  split at h <;> first | (intro q; revert q; decide) | (exfalso; omega)
theorem jfl_off {l : Launch} (hf : l.flags = flags0) : l.stackTraces = false := by
  unfold Launch.stackTraces
  rw [hf]
  decide +kernel
