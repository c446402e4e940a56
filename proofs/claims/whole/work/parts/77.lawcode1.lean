/-! ===== the law: its code ===== -/
theorem pm_s_bad {F : pm_K} {HQ : pm_Q → Prop} {HK : pm_C → Prop} {i : Nat} : pm_S F HQ HK i pm_bad := fun _ _ _ _ _ _ h => h.elim
theorem pm_All_app {P : Nat → pm_Op → Prop} : ∀ (a : List pm_Op) (k : Nat) (b : List pm_Op), pm_All P k a → pm_All P (k + a.length) b → pm_All P k (a ++ b)
  | [], k, b, _, h => h
  | o :: t, k, b, ha, h => ⟨ha.1, pm_All_app t (k + 1) b ha.2 (by rw [show k + 1 + t.length = k + (o :: t).length by simp; omega]; exact h)⟩
def bp_law : List Nat := [0, 3, 4, 7, 8, 11, 12, 15, 16, 17, 18, 19, 20, 21, 22, 23, 26, 27, 28, 29, 31, 32, 152, 153, 154, 155, 156, 157, 158, 161, 162, 163, 164, 165, 166, 167, 170, 173, 174, 175, 176, 179, 180, 183, 186, 187, 188, 189, 192, 193, 196, 199, 200, 201, 202, 205, 206, 209, 212, 213, 214, 215, 216, 217, 218, 219, 220, 221, 222, 223, 224, 225, 228, 229, 230, 231, 232, 233, 234, 235, 236, 237, 238, 239, 242, 245, 246, 247, 248, 249, 250, 251, 252, 253, 256, 257, 258, 259, 260, 261, 262, 265, 268, 269, 270, 271, 272, 273, 274, 275, 276, 279, 280, 281, 282, 283, 284, 285, 288, 291, 292, 293, 294, 297, 298, 301, 304, 305, 306, 307, 310, 311, 314, 317, 318, 319, 320, 321, 322, 323, 324, 325, 328, 329, 332, 333, 336, 337, 338, 339, 340, 341, 342, 345, 346, 349, 350, 353, 356, 357, 358, 359, 360, 361, 362, 363, 364, 365, 366, 367, 368, 369, 372, 373, 376, 377, 380, 381, 382, 383, 384, 385, 386, 387, 388, 389, 390, 391, 394, 395, 398, 399, 402, 405, 406, 407, 408, 409, 410, 411, 412, 413, 416, 417, 420, 421, 424, 425, 426, 427, 428, 429, 430, 433, 434, 437, 438, 441, 444, 445, 446, 447, 448, 449, 450, 451, 452, 453, 454, 455, 456, 457, 460, 461, 462, 463, 464, 465, 466, 467, 468, 469, 470, 471, 474, 477, 478, 479, 480, 481, 482, 483, 484, 485, 486, 487, 488, 489, 490, 493, 494, 497, 498, 501, 502, 503, 504, 505, 506, 507, 508, 509, 510, 511, 512, 515, 516, 519, 520, 523, 526, 527, 528, 529, 530, 531, 532, 533, 534, 535, 536, 537, 538, 539, 542, 543, 544, 545, 546, 547, 548, 549, 550, 551, 552, 553, 556, 559, 560, 561, 562, 563, 564, 565, 566, 567, 568, 569, 570, 571, 572, 575, 576, 577, 578, 579, 580, 581, 582, 583, 584, 585, 586, 589, 592, 593, 594, 595, 596, 597, 598, 599, 600, 601, 602, 603, 604, 605, 608, 609, 610, 611, 612, 613, 614, 615, 616, 617, 618, 619, 622, 625, 626, 627, 628, 631, 632, 635, 638, 639, 640, 641, 642, 643, 644, 645, 646, 649, 650, 651, 652, 653, 654, 655, 658, 661, 662, 663, 664, 665, 666, 667, 668, 669, 670, 671, 672, 673, 674, 677, 678, 681, 682, 685, 686, 687, 688, 689, 690, 691, 692, 693, 694, 695, 696, 699, 700, 703, 704, 707, 710, 711, 712, 713, 714, 715, 716, 717, 718, 719, 720, 721, 722, 723, 724, 725, 726, 727, 728, 731, 732, 735, 736, 739, 740, 741, 742, 743, 744, 745, 746, 747, 748, 749, 750, 751, 752, 753, 754, 755, 758, 759, 762, 763, 766, 769, 770, 771, 772, 773, 774, 775, 776, 777, 778, 780, 781, 782, 783, 784, 785, 786, 787, 790, 791, 792, 795, 796, 797, 798, 799, 800, 801, 802, 804, 805, 806, 807, 808, 809, 810, 811, 814, 815, 816, 819, 820, 823, 824, 825, 826, 827, 828, 829, 830, 831, 834, 835, 836, 837, 838, 839, 840, 843, 846, 847, 848, 849, 850, 851, 852, 853, 854, 857, 858, 859, 860, 861, 862, 863, 866, 869, 870, 871, 872, 873, 874, 875, 876, 877, 880, 881, 882, 883, 884, 885, 886, 889, 892, 893, 894, 895, 896, 897, 898, 899, 900, 903, 904, 905, 906, 907, 908, 909, 912, 915, 916, 917, 920, 923, 924]
set_option maxRecDepth 20000 in
theorem pm_ml_L_13 : Cond.methodLink RL 13 (pm_m 56).1 ∈ wAll := wIn 269 rfl rfl
set_option maxRecDepth 20000 in
theorem pm_q56 : (pm_m 56).1.cls ≠ "java/lang/invoke/MethodHandle" ∧ (pm_m 56).1.cls ≠ "java/lang/invoke/VarHandle" ∧ (parseMethodDescriptor (pm_m 56).1.desc).map (fun d => d.parameters.length) = some 1 := by decide +kernel
set_option maxRecDepth 20000 in
theorem pm_im56 : Cond.instanceMethod (pm_m 56).1 ∈ wAll := wIn 270 rfl rfl
set_option maxRecDepth 20000 in
theorem pm_se56 : Cond.selects RX7 (pm_m 56).1 (pm_m 56).1 ∈ wAll := wIn 271 rfl rfl
set_option maxRecDepth 20000 in
theorem pm_ml_L_17 : Cond.methodLink RL 17 (pm_m 91).1 ∈ wAll := wIn 761 rfl rfl
set_option maxRecDepth 20000 in
theorem pm_q91 : (pm_m 91).1.cls ≠ "java/lang/invoke/MethodHandle" ∧ (pm_m 91).1.cls ≠ "java/lang/invoke/VarHandle" ∧ (parseMethodDescriptor (pm_m 91).1.desc).map (fun d => d.parameters.length) = some 1 := by decide +kernel
set_option maxRecDepth 20000 in
theorem pm_im91 : Cond.instanceMethod (pm_m 91).1 ∈ wAll := wIn 762 rfl rfl
set_option maxRecDepth 20000 in
theorem pm_se91 : Cond.selects RX8 (pm_m 91).1 (pm_m 91).1 ∈ wAll := wIn 763 rfl rfl
set_option maxRecDepth 20000 in
theorem pm_ml_L_18 : Cond.methodLink RL 18 (pm_m 57).1 ∈ wAll := wIn 277 rfl rfl
set_option maxRecDepth 20000 in
theorem pm_q57 : (pm_m 57).1.cls ≠ "java/lang/invoke/MethodHandle" ∧ (pm_m 57).1.cls ≠ "java/lang/invoke/VarHandle" ∧ (parseMethodDescriptor (pm_m 57).1.desc).map (fun d => d.parameters.length) = some 0 := by decide +kernel
set_option maxRecDepth 20000 in
theorem pm_im57 : Cond.instanceMethod (pm_m 57).1 ∈ wAll := wIn 278 rfl rfl
set_option maxRecDepth 20000 in
theorem pm_se57 : Cond.selects RX7 (pm_m 57).1 (pm_m 57).1 ∈ wAll := wIn 279 rfl rfl
set_option maxRecDepth 20000 in
theorem pm_ml_L_22 : Cond.methodLink RL 22 (pm_m 92).1 ∈ wAll := wIn 769 rfl rfl
set_option maxRecDepth 20000 in
theorem pm_q92 : (pm_m 92).1.cls ≠ "java/lang/invoke/MethodHandle" ∧ (pm_m 92).1.cls ≠ "java/lang/invoke/VarHandle" ∧ (parseMethodDescriptor (pm_m 92).1.desc).map (fun d => d.parameters.length) = some 0 := by decide +kernel
set_option maxRecDepth 20000 in
theorem pm_im92 : Cond.instanceMethod (pm_m 92).1 ∈ wAll := wIn 770 rfl rfl
set_option maxRecDepth 20000 in
theorem pm_se92 : Cond.selects RX8 (pm_m 92).1 (pm_m 92).1 ∈ wAll := wIn 771 rfl rfl
set_option maxRecDepth 20000 in
theorem pm_ml_L_23 : Cond.methodLink RL 23 (pm_m 58).1 ∈ wAll := wIn 281 rfl rfl
set_option maxRecDepth 20000 in
theorem pm_q58 : (pm_m 58).1.cls ≠ "java/lang/invoke/MethodHandle" ∧ (pm_m 58).1.cls ≠ "java/lang/invoke/VarHandle" ∧ (parseMethodDescriptor (pm_m 58).1.desc).map (fun d => d.parameters.length) = some 0 := by decide +kernel
set_option maxRecDepth 20000 in
theorem pm_im58 : Cond.instanceMethod (pm_m 58).1 ∈ wAll := wIn 282 rfl rfl
set_option maxRecDepth 20000 in
theorem pm_se58 : Cond.selects RX7 (pm_m 58).1 (pm_m 58).1 ∈ wAll := wIn 283 rfl rfl
set_option maxRecDepth 20000 in
theorem pm_ml_L_26 : Cond.methodLink RL 26 (pm_m 99).1 ∈ wAll := wIn 773 rfl rfl
set_option maxRecDepth 20000 in
theorem pm_q99 : (pm_m 99).1.cls ≠ "java/lang/invoke/MethodHandle" ∧ (pm_m 99).1.cls ≠ "java/lang/invoke/VarHandle" ∧ (parseMethodDescriptor (pm_m 99).1.desc).map (fun d => d.parameters.length) = some 0 := by decide +kernel
set_option maxRecDepth 20000 in
theorem pm_im99 : Cond.instanceMethod (pm_m 99).1 ∈ wAll := wIn 774 rfl rfl
set_option maxRecDepth 20000 in
theorem pm_se99 : Cond.selects RX8 (pm_m 99).1 (pm_m 99).1 ∈ wAll := wIn 775 rfl rfl
set_option maxRecDepth 20000 in
theorem pm_ml_L_27 : Cond.methodLink RL 27 (pm_m 59).1 ∈ wAll := wIn 321 rfl rfl
set_option maxRecDepth 20000 in
theorem pm_q59 : (pm_m 59).1.cls ≠ "java/lang/invoke/MethodHandle" ∧ (pm_m 59).1.cls ≠ "java/lang/invoke/VarHandle" ∧ (parseMethodDescriptor (pm_m 59).1.desc).map (fun d => d.parameters.length) = some 0 := by decide +kernel
set_option maxRecDepth 20000 in
theorem pm_im59 : Cond.instanceMethod (pm_m 59).1 ∈ wAll := wIn 322 rfl rfl
set_option maxRecDepth 20000 in
theorem pm_se59 : Cond.selects RX7 (pm_m 59).1 (pm_m 59).1 ∈ wAll := wIn 323 rfl rfl
set_option maxRecDepth 20000 in
theorem pm_ml_L_30 : Cond.methodLink RL 30 (pm_m 100).1 ∈ wAll := wIn 802 rfl rfl
set_option maxRecDepth 20000 in
theorem pm_q100 : (pm_m 100).1.cls ≠ "java/lang/invoke/MethodHandle" ∧ (pm_m 100).1.cls ≠ "java/lang/invoke/VarHandle" ∧ (parseMethodDescriptor (pm_m 100).1.desc).map (fun d => d.parameters.length) = some 0 := by decide +kernel
set_option maxRecDepth 20000 in
theorem pm_im100 : Cond.instanceMethod (pm_m 100).1 ∈ wAll := wIn 803 rfl rfl
set_option maxRecDepth 20000 in
theorem pm_se100 : Cond.selects RX8 (pm_m 100).1 (pm_m 100).1 ∈ wAll := wIn 804 rfl rfl
set_option maxRecDepth 20000 in
theorem pm_ml_L_31 : Cond.methodLink RL 31 (pm_m 60).1 ∈ wAll := wIn 347 rfl rfl
set_option maxRecDepth 20000 in
theorem pm_q60 : (pm_m 60).1.cls ≠ "java/lang/invoke/MethodHandle" ∧ (pm_m 60).1.cls ≠ "java/lang/invoke/VarHandle" ∧ (parseMethodDescriptor (pm_m 60).1.desc).map (fun d => d.parameters.length) = some 2 := by decide +kernel
set_option maxRecDepth 20000 in
theorem pm_im60 : Cond.instanceMethod (pm_m 60).1 ∈ wAll := wIn 348 rfl rfl
set_option maxRecDepth 20000 in
theorem pm_se60 : Cond.selects RX7 (pm_m 60).1 (pm_m 60).1 ∈ wAll := wIn 349 rfl rfl
set_option maxRecDepth 20000 in
theorem pm_ml_L_35 : Cond.methodLink RL 35 (pm_m 104).1 ∈ wAll := wIn 806 rfl rfl
set_option maxRecDepth 20000 in
theorem pm_q104 : (pm_m 104).1.cls ≠ "java/lang/invoke/MethodHandle" ∧ (pm_m 104).1.cls ≠ "java/lang/invoke/VarHandle" ∧ (parseMethodDescriptor (pm_m 104).1.desc).map (fun d => d.parameters.length) = some 2 := by decide +kernel
set_option maxRecDepth 20000 in
theorem pm_im104 : Cond.instanceMethod (pm_m 104).1 ∈ wAll := wIn 807 rfl rfl
set_option maxRecDepth 20000 in
theorem pm_se104 : Cond.selects RX8 (pm_m 104).1 (pm_m 104).1 ∈ wAll := wIn 808 rfl rfl
set_option maxRecDepth 20000 in
theorem pm_ml_L_36 : Cond.methodLink RL 36 (pm_m 61).1 ∈ wAll := wIn 363 rfl rfl
set_option maxRecDepth 20000 in
theorem pm_q61 : (pm_m 61).1.cls ≠ "java/lang/invoke/MethodHandle" ∧ (pm_m 61).1.cls ≠ "java/lang/invoke/VarHandle" ∧ (parseMethodDescriptor (pm_m 61).1.desc).map (fun d => d.parameters.length) = some 1 := by decide +kernel
set_option maxRecDepth 20000 in
theorem pm_im61 : Cond.instanceMethod (pm_m 61).1 ∈ wAll := wIn 364 rfl rfl
set_option maxRecDepth 20000 in
theorem pm_se61 : Cond.selects RX7 (pm_m 61).1 (pm_m 61).1 ∈ wAll := wIn 365 rfl rfl
set_option maxRecDepth 20000 in
theorem pm_ml_L_39 : Cond.methodLink RL 39 (pm_m 112).1 ∈ wAll := wIn 825 rfl rfl
set_option maxRecDepth 20000 in
theorem pm_q112 : (pm_m 112).1.cls ≠ "java/lang/invoke/MethodHandle" ∧ (pm_m 112).1.cls ≠ "java/lang/invoke/VarHandle" ∧ (parseMethodDescriptor (pm_m 112).1.desc).map (fun d => d.parameters.length) = some 1 := by decide +kernel
set_option maxRecDepth 20000 in
theorem pm_im112 : Cond.instanceMethod (pm_m 112).1 ∈ wAll := wIn 826 rfl rfl
set_option maxRecDepth 20000 in
theorem pm_se112 : Cond.selects RX8 (pm_m 112).1 (pm_m 112).1 ∈ wAll := wIn 827 rfl rfl
set_option maxRecDepth 20000 in
theorem pm_ml_L_40 : Cond.methodLink RL 40 (pm_m 62).1 ∈ wAll := wIn 398 rfl rfl
set_option maxRecDepth 20000 in
theorem pm_q62 : (pm_m 62).1.cls ≠ "java/lang/invoke/MethodHandle" ∧ (pm_m 62).1.cls ≠ "java/lang/invoke/VarHandle" ∧ (parseMethodDescriptor (pm_m 62).1.desc).map (fun d => d.parameters.length) = some 1 := by decide +kernel
set_option maxRecDepth 20000 in
theorem pm_im62 : Cond.instanceMethod (pm_m 62).1 ∈ wAll := wIn 399 rfl rfl
set_option maxRecDepth 20000 in
theorem pm_se62 : Cond.selects RX7 (pm_m 62).1 (pm_m 62).1 ∈ wAll := wIn 400 rfl rfl
set_option maxRecDepth 20000 in
theorem pm_ml_L_43 : Cond.methodLink RL 43 (pm_m 113).1 ∈ wAll := wIn 849 rfl rfl
set_option maxRecDepth 20000 in
theorem pm_q113 : (pm_m 113).1.cls ≠ "java/lang/invoke/MethodHandle" ∧ (pm_m 113).1.cls ≠ "java/lang/invoke/VarHandle" ∧ (parseMethodDescriptor (pm_m 113).1.desc).map (fun d => d.parameters.length) = some 1 := by decide +kernel
set_option maxRecDepth 20000 in
theorem pm_im113 : Cond.instanceMethod (pm_m 113).1 ∈ wAll := wIn 850 rfl rfl
set_option maxRecDepth 20000 in
theorem pm_se113 : Cond.selects RX8 (pm_m 113).1 (pm_m 113).1 ∈ wAll := wIn 851 rfl rfl
set_option maxRecDepth 20000 in
theorem pm_ml_L_44 : Cond.methodLink RL 44 (pm_m 63).1 ∈ wAll := wIn 412 rfl rfl
set_option maxRecDepth 20000 in
theorem pm_q63 : (pm_m 63).1.cls ≠ "java/lang/invoke/MethodHandle" ∧ (pm_m 63).1.cls ≠ "java/lang/invoke/VarHandle" ∧ (parseMethodDescriptor (pm_m 63).1.desc).map (fun d => d.parameters.length) = some 0 := by decide +kernel
set_option maxRecDepth 20000 in
theorem pm_im63 : Cond.instanceMethod (pm_m 63).1 ∈ wAll := wIn 413 rfl rfl
set_option maxRecDepth 20000 in
theorem pm_se63 : Cond.selects RX7 (pm_m 63).1 (pm_m 63).1 ∈ wAll := wIn 414 rfl rfl
set_option maxRecDepth 20000 in
theorem pm_ml_L_47 : Cond.methodLink RL 47 (pm_m 114).1 ∈ wAll := wIn 857 rfl rfl
set_option maxRecDepth 20000 in
theorem pm_q114 : (pm_m 114).1.cls ≠ "java/lang/invoke/MethodHandle" ∧ (pm_m 114).1.cls ≠ "java/lang/invoke/VarHandle" ∧ (parseMethodDescriptor (pm_m 114).1.desc).map (fun d => d.parameters.length) = some 0 := by decide +kernel
set_option maxRecDepth 20000 in
theorem pm_im114 : Cond.instanceMethod (pm_m 114).1 ∈ wAll := wIn 858 rfl rfl
set_option maxRecDepth 20000 in
theorem pm_se114 : Cond.selects RX8 (pm_m 114).1 (pm_m 114).1 ∈ wAll := wIn 859 rfl rfl
set_option maxRecDepth 20000 in
theorem pm_ml_L_48 : Cond.methodLink RL 48 (pm_m 64).1 ∈ wAll := wIn 420 rfl rfl
set_option maxRecDepth 20000 in
theorem pm_q64 : (pm_m 64).1.cls ≠ "java/lang/invoke/MethodHandle" ∧ (pm_m 64).1.cls ≠ "java/lang/invoke/VarHandle" ∧ (parseMethodDescriptor (pm_m 64).1.desc).map (fun d => d.parameters.length) = some 0 := by decide +kernel
set_option maxRecDepth 20000 in
theorem pm_im64 : Cond.instanceMethod (pm_m 64).1 ∈ wAll := wIn 421 rfl rfl
set_option maxRecDepth 20000 in
theorem pm_se64 : Cond.selects RX7 (pm_m 64).1 (pm_m 64).1 ∈ wAll := wIn 422 rfl rfl
set_option maxRecDepth 20000 in
theorem pm_ml_L_51 : Cond.methodLink RL 51 (pm_m 115).1 ∈ wAll := wIn 865 rfl rfl
set_option maxRecDepth 20000 in
theorem pm_q115 : (pm_m 115).1.cls ≠ "java/lang/invoke/MethodHandle" ∧ (pm_m 115).1.cls ≠ "java/lang/invoke/VarHandle" ∧ (parseMethodDescriptor (pm_m 115).1.desc).map (fun d => d.parameters.length) = some 0 := by decide +kernel
set_option maxRecDepth 20000 in
theorem pm_im115 : Cond.instanceMethod (pm_m 115).1 ∈ wAll := wIn 866 rfl rfl
set_option maxRecDepth 20000 in
theorem pm_se115 : Cond.selects RX8 (pm_m 115).1 (pm_m 115).1 ∈ wAll := wIn 867 rfl rfl
set_option maxRecDepth 20000 in
theorem pm_ml_L_52 : Cond.methodLink RL 52 (pm_m 65).1 ∈ wAll := wIn 428 rfl rfl
set_option maxRecDepth 20000 in
theorem pm_q65 : (pm_m 65).1.cls ≠ "java/lang/invoke/MethodHandle" ∧ (pm_m 65).1.cls ≠ "java/lang/invoke/VarHandle" ∧ (parseMethodDescriptor (pm_m 65).1.desc).map (fun d => d.parameters.length) = some 1 := by decide +kernel
set_option maxRecDepth 20000 in
theorem pm_im65 : Cond.instanceMethod (pm_m 65).1 ∈ wAll := wIn 429 rfl rfl
set_option maxRecDepth 20000 in
theorem pm_se65 : Cond.selects RX7 (pm_m 65).1 (pm_m 65).1 ∈ wAll := wIn 430 rfl rfl
set_option maxRecDepth 20000 in
theorem pm_ml_L_56 : Cond.methodLink RL 56 (pm_m 121).1 ∈ wAll := wIn 869 rfl rfl
set_option maxRecDepth 20000 in
theorem pm_q121 : (pm_m 121).1.cls ≠ "java/lang/invoke/MethodHandle" ∧ (pm_m 121).1.cls ≠ "java/lang/invoke/VarHandle" ∧ (parseMethodDescriptor (pm_m 121).1.desc).map (fun d => d.parameters.length) = some 1 := by decide +kernel
set_option maxRecDepth 20000 in
theorem pm_im121 : Cond.instanceMethod (pm_m 121).1 ∈ wAll := wIn 870 rfl rfl
set_option maxRecDepth 20000 in
theorem pm_se121 : Cond.selects RX8 (pm_m 121).1 (pm_m 121).1 ∈ wAll := wIn 871 rfl rfl
set_option maxRecDepth 20000 in
theorem pm_ml_L_57 : Cond.methodLink RL 57 (pm_m 66).1 ∈ wAll := wIn 459 rfl rfl
set_option maxRecDepth 20000 in
theorem pm_q66 : (pm_m 66).1.cls ≠ "java/lang/invoke/MethodHandle" ∧ (pm_m 66).1.cls ≠ "java/lang/invoke/VarHandle" ∧ (parseMethodDescriptor (pm_m 66).1.desc).map (fun d => d.parameters.length) = some 2 := by decide +kernel
set_option maxRecDepth 20000 in
theorem pm_im66 : Cond.instanceMethod (pm_m 66).1 ∈ wAll := wIn 460 rfl rfl
set_option maxRecDepth 20000 in
theorem pm_se66 : Cond.selects RX7 (pm_m 66).1 (pm_m 66).1 ∈ wAll := wIn 461 rfl rfl
set_option maxRecDepth 20000 in
theorem pm_ml_L_61 : Cond.methodLink RL 61 (pm_m 124).1 ∈ wAll := wIn 893 rfl rfl
set_option maxRecDepth 20000 in
theorem pm_q124 : (pm_m 124).1.cls ≠ "java/lang/invoke/MethodHandle" ∧ (pm_m 124).1.cls ≠ "java/lang/invoke/VarHandle" ∧ (parseMethodDescriptor (pm_m 124).1.desc).map (fun d => d.parameters.length) = some 2 := by decide +kernel
set_option maxRecDepth 20000 in
theorem pm_im124 : Cond.instanceMethod (pm_m 124).1 ∈ wAll := wIn 894 rfl rfl
set_option maxRecDepth 20000 in
theorem pm_se124 : Cond.selects RX8 (pm_m 124).1 (pm_m 124).1 ∈ wAll := wIn 895 rfl rfl
set_option maxRecDepth 20000 in
theorem pm_ml_L_62 : Cond.methodLink RL 62 (pm_m 67).1 ∈ wAll := wIn 494 rfl rfl
set_option maxRecDepth 20000 in
theorem pm_q67 : (pm_m 67).1.cls ≠ "java/lang/invoke/MethodHandle" ∧ (pm_m 67).1.cls ≠ "java/lang/invoke/VarHandle" ∧ (parseMethodDescriptor (pm_m 67).1.desc).map (fun d => d.parameters.length) = some 1 := by decide +kernel
set_option maxRecDepth 20000 in
theorem pm_im67 : Cond.instanceMethod (pm_m 67).1 ∈ wAll := wIn 495 rfl rfl
set_option maxRecDepth 20000 in
theorem pm_se67 : Cond.selects RX7 (pm_m 67).1 (pm_m 67).1 ∈ wAll := wIn 496 rfl rfl
set_option maxRecDepth 20000 in
theorem pm_ml_L_65 : Cond.methodLink RL 65 (pm_m 125).1 ∈ wAll := wIn 906 rfl rfl
set_option maxRecDepth 20000 in
theorem pm_q125 : (pm_m 125).1.cls ≠ "java/lang/invoke/MethodHandle" ∧ (pm_m 125).1.cls ≠ "java/lang/invoke/VarHandle" ∧ (parseMethodDescriptor (pm_m 125).1.desc).map (fun d => d.parameters.length) = some 1 := by decide +kernel
set_option maxRecDepth 20000 in
theorem pm_im125 : Cond.instanceMethod (pm_m 125).1 ∈ wAll := wIn 907 rfl rfl
set_option maxRecDepth 20000 in
theorem pm_se125 : Cond.selects RX8 (pm_m 125).1 (pm_m 125).1 ∈ wAll := wIn 908 rfl rfl
set_option maxRecDepth 20000 in
theorem pm_ml_L_66 : Cond.methodLink RL 66 (pm_m 68).1 ∈ wAll := wIn 498 rfl rfl
set_option maxRecDepth 20000 in
theorem pm_q68 : (pm_m 68).1.cls ≠ "java/lang/invoke/MethodHandle" ∧ (pm_m 68).1.cls ≠ "java/lang/invoke/VarHandle" ∧ (parseMethodDescriptor (pm_m 68).1.desc).map (fun d => d.parameters.length) = some 2 := by decide +kernel
set_option maxRecDepth 20000 in
theorem pm_im68 : Cond.instanceMethod (pm_m 68).1 ∈ wAll := wIn 499 rfl rfl
set_option maxRecDepth 20000 in
theorem pm_se68 : Cond.selects RX7 (pm_m 68).1 (pm_m 68).1 ∈ wAll := wIn 500 rfl rfl
set_option maxRecDepth 20000 in
theorem pm_ml_L_69 : Cond.methodLink RL 69 (pm_m 128).1 ∈ wAll := wIn 910 rfl rfl
set_option maxRecDepth 20000 in
theorem pm_q128 : (pm_m 128).1.cls ≠ "java/lang/invoke/MethodHandle" ∧ (pm_m 128).1.cls ≠ "java/lang/invoke/VarHandle" ∧ (parseMethodDescriptor (pm_m 128).1.desc).map (fun d => d.parameters.length) = some 2 := by decide +kernel
set_option maxRecDepth 20000 in
theorem pm_im128 : Cond.instanceMethod (pm_m 128).1 ∈ wAll := wIn 911 rfl rfl
set_option maxRecDepth 20000 in
theorem pm_se128 : Cond.selects RX8 (pm_m 128).1 (pm_m 128).1 ∈ wAll := wIn 912 rfl rfl
set_option maxRecDepth 20000 in
theorem pm_ml_L_70 : Cond.methodLink RL 70 (pm_m 69).1 ∈ wAll := wIn 521 rfl rfl
set_option maxRecDepth 20000 in
theorem pm_q69 : (pm_m 69).1.cls ≠ "java/lang/invoke/MethodHandle" ∧ (pm_m 69).1.cls ≠ "java/lang/invoke/VarHandle" ∧ (parseMethodDescriptor (pm_m 69).1.desc).map (fun d => d.parameters.length) = some 2 := by decide +kernel
set_option maxRecDepth 20000 in
theorem pm_im69 : Cond.instanceMethod (pm_m 69).1 ∈ wAll := wIn 522 rfl rfl
set_option maxRecDepth 20000 in
theorem pm_se69 : Cond.selects RX7 (pm_m 69).1 (pm_m 69).1 ∈ wAll := wIn 523 rfl rfl
set_option maxRecDepth 20000 in
theorem pm_ml_L_73 : Cond.methodLink RL 73 (pm_m 131).1 ∈ wAll := wIn 923 rfl rfl
set_option maxRecDepth 20000 in
theorem pm_q131 : (pm_m 131).1.cls ≠ "java/lang/invoke/MethodHandle" ∧ (pm_m 131).1.cls ≠ "java/lang/invoke/VarHandle" ∧ (parseMethodDescriptor (pm_m 131).1.desc).map (fun d => d.parameters.length) = some 2 := by decide +kernel
set_option maxRecDepth 20000 in
theorem pm_im131 : Cond.instanceMethod (pm_m 131).1 ∈ wAll := wIn 924 rfl rfl
set_option maxRecDepth 20000 in
theorem pm_se131 : Cond.selects RX8 (pm_m 131).1 (pm_m 131).1 ∈ wAll := wIn 925 rfl rfl
set_option maxRecDepth 20000 in
theorem pm_ml_L_74 : Cond.methodLink RL 74 (pm_m 70).1 ∈ wAll := wIn 550 rfl rfl
set_option maxRecDepth 20000 in
theorem pm_q70 : (pm_m 70).1.cls ≠ "java/lang/invoke/MethodHandle" ∧ (pm_m 70).1.cls ≠ "java/lang/invoke/VarHandle" ∧ (parseMethodDescriptor (pm_m 70).1.desc).map (fun d => d.parameters.length) = some 2 := by decide +kernel
set_option maxRecDepth 20000 in
theorem pm_im70 : Cond.instanceMethod (pm_m 70).1 ∈ wAll := wIn 551 rfl rfl
set_option maxRecDepth 20000 in
theorem pm_se70 : Cond.selects RX7 (pm_m 70).1 (pm_m 70).1 ∈ wAll := wIn 552 rfl rfl
set_option maxRecDepth 20000 in
theorem pm_ml_L_77 : Cond.methodLink RL 77 (pm_m 135).1 ∈ wAll := wIn 933 rfl rfl
set_option maxRecDepth 20000 in
theorem pm_q135 : (pm_m 135).1.cls ≠ "java/lang/invoke/MethodHandle" ∧ (pm_m 135).1.cls ≠ "java/lang/invoke/VarHandle" ∧ (parseMethodDescriptor (pm_m 135).1.desc).map (fun d => d.parameters.length) = some 2 := by decide +kernel
set_option maxRecDepth 20000 in
theorem pm_im135 : Cond.instanceMethod (pm_m 135).1 ∈ wAll := wIn 934 rfl rfl
set_option maxRecDepth 20000 in
theorem pm_se135 : Cond.selects RX8 (pm_m 135).1 (pm_m 135).1 ∈ wAll := wIn 935 rfl rfl
set_option maxRecDepth 20000 in
theorem pm_ml_L_78 : Cond.methodLink RL 78 (pm_m 71).1 ∈ wAll := wIn 568 rfl rfl
set_option maxRecDepth 20000 in
theorem pm_q71 : (pm_m 71).1.cls ≠ "java/lang/invoke/MethodHandle" ∧ (pm_m 71).1.cls ≠ "java/lang/invoke/VarHandle" ∧ (parseMethodDescriptor (pm_m 71).1.desc).map (fun d => d.parameters.length) = some 2 := by decide +kernel
set_option maxRecDepth 20000 in
theorem pm_im71 : Cond.instanceMethod (pm_m 71).1 ∈ wAll := wIn 569 rfl rfl
set_option maxRecDepth 20000 in
theorem pm_se71 : Cond.selects RX7 (pm_m 71).1 (pm_m 71).1 ∈ wAll := wIn 570 rfl rfl
set_option maxRecDepth 20000 in
theorem pm_ml_L_81 : Cond.methodLink RL 81 (pm_m 136).1 ∈ wAll := wIn 947 rfl rfl
set_option maxRecDepth 20000 in
theorem pm_q136 : (pm_m 136).1.cls ≠ "java/lang/invoke/MethodHandle" ∧ (pm_m 136).1.cls ≠ "java/lang/invoke/VarHandle" ∧ (parseMethodDescriptor (pm_m 136).1.desc).map (fun d => d.parameters.length) = some 2 := by decide +kernel
set_option maxRecDepth 20000 in
theorem pm_im136 : Cond.instanceMethod (pm_m 136).1 ∈ wAll := wIn 948 rfl rfl
set_option maxRecDepth 20000 in
theorem pm_se136 : Cond.selects RX8 (pm_m 136).1 (pm_m 136).1 ∈ wAll := wIn 949 rfl rfl
set_option maxRecDepth 20000 in
theorem pm_ml_L_82 : Cond.methodLink RL 82 (pm_m 72).1 ∈ wAll := wIn 572 rfl rfl
set_option maxRecDepth 20000 in
theorem pm_q72 : (pm_m 72).1.cls ≠ "java/lang/invoke/MethodHandle" ∧ (pm_m 72).1.cls ≠ "java/lang/invoke/VarHandle" ∧ (parseMethodDescriptor (pm_m 72).1.desc).map (fun d => d.parameters.length) = some 2 := by decide +kernel
set_option maxRecDepth 20000 in
theorem pm_im72 : Cond.instanceMethod (pm_m 72).1 ∈ wAll := wIn 573 rfl rfl
set_option maxRecDepth 20000 in
theorem pm_se72 : Cond.selects RX7 (pm_m 72).1 (pm_m 72).1 ∈ wAll := wIn 574 rfl rfl
set_option maxRecDepth 20000 in
theorem pm_ml_L_85 : Cond.methodLink RL 85 (pm_m 137).1 ∈ wAll := wIn 951 rfl rfl
set_option maxRecDepth 20000 in
theorem pm_q137 : (pm_m 137).1.cls ≠ "java/lang/invoke/MethodHandle" ∧ (pm_m 137).1.cls ≠ "java/lang/invoke/VarHandle" ∧ (parseMethodDescriptor (pm_m 137).1.desc).map (fun d => d.parameters.length) = some 2 := by decide +kernel
set_option maxRecDepth 20000 in
theorem pm_im137 : Cond.instanceMethod (pm_m 137).1 ∈ wAll := wIn 952 rfl rfl
set_option maxRecDepth 20000 in
theorem pm_se137 : Cond.selects RX8 (pm_m 137).1 (pm_m 137).1 ∈ wAll := wIn 953 rfl rfl
set_option maxRecDepth 20000 in
theorem pm_ml_L_86 : Cond.methodLink RL 86 (pm_m 73).1 ∈ wAll := wIn 580 rfl rfl
set_option maxRecDepth 20000 in
theorem pm_q73 : (pm_m 73).1.cls ≠ "java/lang/invoke/MethodHandle" ∧ (pm_m 73).1.cls ≠ "java/lang/invoke/VarHandle" ∧ (parseMethodDescriptor (pm_m 73).1.desc).map (fun d => d.parameters.length) = some 0 := by decide +kernel
set_option maxRecDepth 20000 in
theorem pm_im73 : Cond.instanceMethod (pm_m 73).1 ∈ wAll := wIn 581 rfl rfl
set_option maxRecDepth 20000 in
theorem pm_se73 : Cond.selects RX7 (pm_m 73).1 (pm_m 73).1 ∈ wAll := wIn 582 rfl rfl
set_option maxRecDepth 20000 in
theorem pm_ml_L_89 : Cond.methodLink RL 89 (pm_m 138).1 ∈ wAll := wIn 958 rfl rfl
set_option maxRecDepth 20000 in
theorem pm_q138 : (pm_m 138).1.cls ≠ "java/lang/invoke/MethodHandle" ∧ (pm_m 138).1.cls ≠ "java/lang/invoke/VarHandle" ∧ (parseMethodDescriptor (pm_m 138).1.desc).map (fun d => d.parameters.length) = some 0 := by decide +kernel
set_option maxRecDepth 20000 in
theorem pm_im138 : Cond.instanceMethod (pm_m 138).1 ∈ wAll := wIn 959 rfl rfl
set_option maxRecDepth 20000 in
theorem pm_se138 : Cond.selects RX8 (pm_m 138).1 (pm_m 138).1 ∈ wAll := wIn 960 rfl rfl
set_option maxRecDepth 20000 in
theorem pm_ml_L_90 : Cond.methodLink RL 90 (pm_m 74).1 ∈ wAll := wIn 584 rfl rfl
set_option maxRecDepth 20000 in
theorem pm_q74 : (pm_m 74).1.cls ≠ "java/lang/invoke/MethodHandle" ∧ (pm_m 74).1.cls ≠ "java/lang/invoke/VarHandle" ∧ (parseMethodDescriptor (pm_m 74).1.desc).map (fun d => d.parameters.length) = some 1 := by decide +kernel
set_option maxRecDepth 20000 in
theorem pm_im74 : Cond.instanceMethod (pm_m 74).1 ∈ wAll := wIn 585 rfl rfl
set_option maxRecDepth 20000 in
theorem pm_se74 : Cond.selects RX7 (pm_m 74).1 (pm_m 74).1 ∈ wAll := wIn 586 rfl rfl
set_option maxRecDepth 20000 in
theorem pm_ml_L_93 : Cond.methodLink RL 93 (pm_m 141).1 ∈ wAll := wIn 962 rfl rfl
set_option maxRecDepth 20000 in
theorem pm_q141 : (pm_m 141).1.cls ≠ "java/lang/invoke/MethodHandle" ∧ (pm_m 141).1.cls ≠ "java/lang/invoke/VarHandle" ∧ (parseMethodDescriptor (pm_m 141).1.desc).map (fun d => d.parameters.length) = some 1 := by decide +kernel
set_option maxRecDepth 20000 in
theorem pm_im141 : Cond.instanceMethod (pm_m 141).1 ∈ wAll := wIn 963 rfl rfl
set_option maxRecDepth 20000 in
theorem pm_se141 : Cond.selects RX8 (pm_m 141).1 (pm_m 141).1 ∈ wAll := wIn 964 rfl rfl
set_option maxRecDepth 20000 in
theorem pm_ml_L_94 : Cond.methodLink RL 94 (pm_m 75).1 ∈ wAll := wIn 605 rfl rfl
set_option maxRecDepth 20000 in
theorem pm_q75 : (pm_m 75).1.cls ≠ "java/lang/invoke/MethodHandle" ∧ (pm_m 75).1.cls ≠ "java/lang/invoke/VarHandle" ∧ (parseMethodDescriptor (pm_m 75).1.desc).map (fun d => d.parameters.length) = some 2 := by decide +kernel
set_option maxRecDepth 20000 in
theorem pm_im75 : Cond.instanceMethod (pm_m 75).1 ∈ wAll := wIn 606 rfl rfl
set_option maxRecDepth 20000 in
theorem pm_se75 : Cond.selects RX7 (pm_m 75).1 (pm_m 75).1 ∈ wAll := wIn 607 rfl rfl
set_option maxRecDepth 20000 in
theorem pm_ml_L_97 : Cond.methodLink RL 97 (pm_m 144).1 ∈ wAll := wIn 974 rfl rfl
set_option maxRecDepth 20000 in
theorem pm_q144 : (pm_m 144).1.cls ≠ "java/lang/invoke/MethodHandle" ∧ (pm_m 144).1.cls ≠ "java/lang/invoke/VarHandle" ∧ (parseMethodDescriptor (pm_m 144).1.desc).map (fun d => d.parameters.length) = some 2 := by decide +kernel
set_option maxRecDepth 20000 in
theorem pm_im144 : Cond.instanceMethod (pm_m 144).1 ∈ wAll := wIn 975 rfl rfl
set_option maxRecDepth 20000 in
theorem pm_se144 : Cond.selects RX8 (pm_m 144).1 (pm_m 144).1 ∈ wAll := wIn 976 rfl rfl
set_option maxRecDepth 20000 in
theorem pm_ml_L_98 : Cond.methodLink RL 98 (pm_m 76).1 ∈ wAll := wIn 616 rfl rfl
set_option maxRecDepth 20000 in
theorem pm_q76 : (pm_m 76).1.cls ≠ "java/lang/invoke/MethodHandle" ∧ (pm_m 76).1.cls ≠ "java/lang/invoke/VarHandle" ∧ (parseMethodDescriptor (pm_m 76).1.desc).map (fun d => d.parameters.length) = some 3 := by decide +kernel
set_option maxRecDepth 20000 in
theorem pm_im76 : Cond.instanceMethod (pm_m 76).1 ∈ wAll := wIn 617 rfl rfl
set_option maxRecDepth 20000 in
theorem pm_se76 : Cond.selects RX7 (pm_m 76).1 (pm_m 76).1 ∈ wAll := wIn 618 rfl rfl
set_option maxRecDepth 20000 in
theorem pm_ml_L_102 : Cond.methodLink RL 102 (pm_m 145).1 ∈ wAll := wIn 987 rfl rfl
set_option maxRecDepth 20000 in
theorem pm_q145 : (pm_m 145).1.cls ≠ "java/lang/invoke/MethodHandle" ∧ (pm_m 145).1.cls ≠ "java/lang/invoke/VarHandle" ∧ (parseMethodDescriptor (pm_m 145).1.desc).map (fun d => d.parameters.length) = some 3 := by decide +kernel
set_option maxRecDepth 20000 in
theorem pm_im145 : Cond.instanceMethod (pm_m 145).1 ∈ wAll := wIn 988 rfl rfl
set_option maxRecDepth 20000 in
theorem pm_se145 : Cond.selects RX8 (pm_m 145).1 (pm_m 145).1 ∈ wAll := wIn 989 rfl rfl
set_option maxRecDepth 20000 in
theorem pm_k_L_103 : Cond.constantLong RL 103 (4294967295) ∈ wAll := wIn 1015 rfl rfl
set_option maxRecDepth 20000 in
theorem pm_ml_L_105 : Cond.methodLink RL 105 (pm_m 77).1 ∈ wAll := wIn 635 rfl rfl
set_option maxRecDepth 20000 in
theorem pm_q77 : (pm_m 77).1.cls ≠ "java/lang/invoke/MethodHandle" ∧ (pm_m 77).1.cls ≠ "java/lang/invoke/VarHandle" ∧ (parseMethodDescriptor (pm_m 77).1.desc).map (fun d => d.parameters.length) = some 1 := by decide +kernel
set_option maxRecDepth 20000 in
theorem pm_im77 : Cond.instanceMethod (pm_m 77).1 ∈ wAll := wIn 636 rfl rfl
set_option maxRecDepth 20000 in
theorem pm_se77 : Cond.selects RX7 (pm_m 77).1 (pm_m 77).1 ∈ wAll := wIn 637 rfl rfl
set_option maxRecDepth 20000 in
theorem pm_ml_L_109 : Cond.methodLink RL 109 (pm_m 146).1 ∈ wAll := wIn 992 rfl rfl
set_option maxRecDepth 20000 in
theorem pm_q146 : (pm_m 146).1.cls ≠ "java/lang/invoke/MethodHandle" ∧ (pm_m 146).1.cls ≠ "java/lang/invoke/VarHandle" ∧ (parseMethodDescriptor (pm_m 146).1.desc).map (fun d => d.parameters.length) = some 1 := by decide +kernel
set_option maxRecDepth 20000 in
theorem pm_im146 : Cond.instanceMethod (pm_m 146).1 ∈ wAll := wIn 993 rfl rfl
set_option maxRecDepth 20000 in
theorem pm_se146 : Cond.selects RX8 (pm_m 146).1 (pm_m 146).1 ∈ wAll := wIn 994 rfl rfl
set_option maxRecDepth 20000 in
theorem pm_ml_L_110 : Cond.methodLink RL 110 (pm_m 78).1 ∈ wAll := wIn 639 rfl rfl
set_option maxRecDepth 20000 in
theorem pm_q78 : (pm_m 78).1.cls ≠ "java/lang/invoke/MethodHandle" ∧ (pm_m 78).1.cls ≠ "java/lang/invoke/VarHandle" ∧ (parseMethodDescriptor (pm_m 78).1.desc).map (fun d => d.parameters.length) = some 1 := by decide +kernel
set_option maxRecDepth 20000 in
theorem pm_im78 : Cond.instanceMethod (pm_m 78).1 ∈ wAll := wIn 640 rfl rfl
set_option maxRecDepth 20000 in
theorem pm_se78 : Cond.selects RX7 (pm_m 78).1 (pm_m 78).1 ∈ wAll := wIn 641 rfl rfl
set_option maxRecDepth 20000 in
theorem pm_ml_L_113 : Cond.methodLink RL 113 (pm_m 147).1 ∈ wAll := wIn 996 rfl rfl
set_option maxRecDepth 20000 in
theorem pm_q147 : (pm_m 147).1.cls ≠ "java/lang/invoke/MethodHandle" ∧ (pm_m 147).1.cls ≠ "java/lang/invoke/VarHandle" ∧ (parseMethodDescriptor (pm_m 147).1.desc).map (fun d => d.parameters.length) = some 1 := by decide +kernel
set_option maxRecDepth 20000 in
theorem pm_im147 : Cond.instanceMethod (pm_m 147).1 ∈ wAll := wIn 997 rfl rfl
set_option maxRecDepth 20000 in
theorem pm_se147 : Cond.selects RX8 (pm_m 147).1 (pm_m 147).1 ∈ wAll := wIn 998 rfl rfl
set_option maxRecDepth 20000 in
theorem pm_ml_L_114 : Cond.methodLink RL 114 (pm_m 79).1 ∈ wAll := wIn 648 rfl rfl
set_option maxRecDepth 20000 in
theorem pm_q79 : (pm_m 79).1.cls ≠ "java/lang/invoke/MethodHandle" ∧ (pm_m 79).1.cls ≠ "java/lang/invoke/VarHandle" ∧ (parseMethodDescriptor (pm_m 79).1.desc).map (fun d => d.parameters.length) = some 1 := by decide +kernel
set_option maxRecDepth 20000 in
theorem pm_im79 : Cond.instanceMethod (pm_m 79).1 ∈ wAll := wIn 649 rfl rfl
set_option maxRecDepth 20000 in
theorem pm_se79 : Cond.selects RX7 (pm_m 79).1 (pm_m 79).1 ∈ wAll := wIn 650 rfl rfl
set_option maxRecDepth 20000 in
theorem pm_ml_L_117 : Cond.methodLink RL 117 (pm_m 148).1 ∈ wAll := wIn 1003 rfl rfl
set_option maxRecDepth 20000 in
theorem pm_q148 : (pm_m 148).1.cls ≠ "java/lang/invoke/MethodHandle" ∧ (pm_m 148).1.cls ≠ "java/lang/invoke/VarHandle" ∧ (parseMethodDescriptor (pm_m 148).1.desc).map (fun d => d.parameters.length) = some 1 := by decide +kernel
set_option maxRecDepth 20000 in
theorem pm_im148 : Cond.instanceMethod (pm_m 148).1 ∈ wAll := wIn 1004 rfl rfl
set_option maxRecDepth 20000 in
theorem pm_se148 : Cond.selects RX8 (pm_m 148).1 (pm_m 148).1 ∈ wAll := wIn 1005 rfl rfl
set_option maxRecDepth 20000 in
theorem pm_ml_L_118 : Cond.methodLink RL 118 (pm_m 80).1 ∈ wAll := wIn 653 rfl rfl
set_option maxRecDepth 20000 in
theorem pm_q80 : (pm_m 80).1.cls ≠ "java/lang/invoke/MethodHandle" ∧ (pm_m 80).1.cls ≠ "java/lang/invoke/VarHandle" ∧ (parseMethodDescriptor (pm_m 80).1.desc).map (fun d => d.parameters.length) = some 1 := by decide +kernel
set_option maxRecDepth 20000 in
theorem pm_im80 : Cond.instanceMethod (pm_m 80).1 ∈ wAll := wIn 654 rfl rfl
set_option maxRecDepth 20000 in
theorem pm_se80 : Cond.selects RX7 (pm_m 80).1 (pm_m 80).1 ∈ wAll := wIn 655 rfl rfl
set_option maxRecDepth 20000 in
theorem pm_ml_L_121 : Cond.methodLink RL 121 (pm_m 149).1 ∈ wAll := wIn 1007 rfl rfl
set_option maxRecDepth 20000 in
theorem pm_q149 : (pm_m 149).1.cls ≠ "java/lang/invoke/MethodHandle" ∧ (pm_m 149).1.cls ≠ "java/lang/invoke/VarHandle" ∧ (parseMethodDescriptor (pm_m 149).1.desc).map (fun d => d.parameters.length) = some 1 := by decide +kernel
set_option maxRecDepth 20000 in
theorem pm_im149 : Cond.instanceMethod (pm_m 149).1 ∈ wAll := wIn 1008 rfl rfl
set_option maxRecDepth 20000 in
theorem pm_se149 : Cond.selects RX8 (pm_m 149).1 (pm_m 149).1 ∈ wAll := wIn 1009 rfl rfl
set_option maxRecDepth 20000 in
theorem pm_ml_L_122 : Cond.methodLink RL 122 (pm_m 81).1 ∈ wAll := wIn 657 rfl rfl
set_option maxRecDepth 20000 in
theorem pm_q81 : (pm_m 81).1.cls ≠ "java/lang/invoke/MethodHandle" ∧ (pm_m 81).1.cls ≠ "java/lang/invoke/VarHandle" ∧ (parseMethodDescriptor (pm_m 81).1.desc).map (fun d => d.parameters.length) = some 1 := by decide +kernel
set_option maxRecDepth 20000 in
theorem pm_im81 : Cond.instanceMethod (pm_m 81).1 ∈ wAll := wIn 658 rfl rfl
set_option maxRecDepth 20000 in
theorem pm_se81 : Cond.selects RX7 (pm_m 81).1 (pm_m 81).1 ∈ wAll := wIn 659 rfl rfl
set_option maxRecDepth 20000 in
theorem pm_ml_L_125 : Cond.methodLink RL 125 (pm_m 150).1 ∈ wAll := wIn 1011 rfl rfl
set_option maxRecDepth 20000 in
theorem pm_q150 : (pm_m 150).1.cls ≠ "java/lang/invoke/MethodHandle" ∧ (pm_m 150).1.cls ≠ "java/lang/invoke/VarHandle" ∧ (parseMethodDescriptor (pm_m 150).1.desc).map (fun d => d.parameters.length) = some 1 := by decide +kernel
set_option maxRecDepth 20000 in
theorem pm_im150 : Cond.instanceMethod (pm_m 150).1 ∈ wAll := wIn 1012 rfl rfl
set_option maxRecDepth 20000 in
theorem pm_se150 : Cond.selects RX8 (pm_m 150).1 (pm_m 150).1 ∈ wAll := wIn 1013 rfl rfl
def cl_0 (L : Nat) (xs : Nat → Int32) : List pm_Op := [
  pm_bad,
  pm_bad,
  pm_bad,
  pm_bad,
  pm_bad,
  pm_bad,
  pm_bad,
  pm_bad,
  pm_push (0),
  pm_istore 3,
  pm_iload 3,
  pm_aload 0,
  pm_slen L,
  pm_push (4),
  pm_bin (fun x y => x - y),
  pm_cmpgt 579,
  pm_aload 0,
  pm_iload 3,
  pm_sald L xs,
  pm_push (31),
  pm_bin (fun x y => x &&& y),
  pm_tsw 577 [(0, 22), (1, 39), (2, 46), (3, 53), (4, 60), (5, 87), (6, 104), (7, 121), (8, 128), (9, 135), (10, 160), (11, 195), (12, 220), (13, 247), (14, 282), (15, 309), (16, 336), (17, 363), (18, 370), (19, 387), (20, 422), (21, 467), (22, 509), (23, 526), (24, 543), (25, 560)],
  pm_aload 1,
  pm_aload 0,
  pm_iload 3,
  pm_push (1),
  pm_bin (fun x y => x + y),
  pm_sald L xs,
  pm_callV 7 56 2,
  pm_aload 2]
set_option maxRecDepth 20000 in
set_option maxHeartbeats 4000000 in
theorem sl_0 (p : Program) (l : Launch) (e : Env) (R : Room) (s : State) (m : MethodId) (args : Array Value) (below : List Frame) (meth : Method) (c : Code) (cells slots : Nat) (Qm : State → Prop) (D : va_G) (cs : pm_Cs) (ad : Nat → Nat → Nat) (sz d : Nat) (L : Nat) (xs : Nat → Int32) (C : pm_X p s m args c D cs ad sz RL code 4) (hR : d + 1 ≤ R.frames ∧ 60 * (d + 1) ≤ R.locals ∧ cells ≤ R.cells ∧ slots ≤ R.slots) (hXs : va_X (ad 39 0) L xs s s.heap) (hbl : ad 39 0 < s.heap.size) (hbA : ¬ pm_A sz (ad 39 0)) : pm_All (pm_S (pm_F p l e R s m args below meth c cells slots Qm D cs ad sz 4 bp_law) (pm_HQ (pm_F p l e R s m args below meth c cells slots Qm D cs ad sz 4 bp_law) code bp_law (some .boolean)) (pm_HK l D cs ad sz d)) 0 (cl_0 L xs) := ⟨
  pm_s_bad,
  pm_s_bad,
  pm_s_bad,
  pm_s_bad,
  pm_s_bad,
  pm_s_bad,
  pm_s_bad,
  pm_s_bad,
  pm_s_iconst C (n := 0) (by decide +kernel) rfl rfl,
  pm_s_istore_n C (n := 3) (by decide +kernel) rfl rfl,
  pm_s_iload_n C (n := 3) (by decide +kernel) rfl rfl,
  pm_s_aload_n C (n := 0) (by decide +kernel) rfl rfl,
  pm_s_slen C hXs hbl hbA (by decide +kernel) rfl,
  pm_s_iconst C (n := 4) (by decide +kernel) rfl rfl,
  pm_s_isub C (by decide +kernel) rfl,
  pm_s_cmpgt C (off := 900) (by decide +kernel) (by decide +kernel) rfl,
  pm_s_aload_n C (n := 0) (by decide +kernel) rfl rfl,
  pm_s_iload_n C (n := 3) (by decide +kernel) rfl rfl,
  pm_s_sald C hXs hbl hbA (by decide +kernel) rfl,
  pm_s_bipush C (n := 31) (by decide +kernel) rfl rfl,
  pm_s_iand C (by decide +kernel) rfl,
  pm_s_tsw C (dflt := 885) (lo := 0) (hi := 25) (offs := #[120, 143, 156, 169, 182, 215, 238, 261, 274, 287, 326, 375, 414, 447, 496, 529, 562, 595, 608, 631, 680, 739, 793, 816, 839, 862]) (len := 120) (by decide +kernel) (by decide +kernel) (by decide +kernel) (by decide +kernel),
  pm_s_aload_n C (n := 1) (by decide +kernel) rfl rfl,
  pm_s_aload_n C (n := 0) (by decide +kernel) rfl rfl,
  pm_s_iload_n C (n := 3) (by decide +kernel) rfl rfl,
  pm_s_iconst C (n := 1) (by decide +kernel) rfl rfl,
  pm_s_iadd C (by decide +kernel) rfl,
  pm_s_sald C hXs hbl hbA (by decide +kernel) rfl,
  pm_s_callV C hR (n := 13) (ci := 7) rfl (by decide +kernel) pm_ml_L_13 pm_im56 pm_se56 pm_in_X7 pm_cw56 pm_q56 (by decide) rfl,
  pm_s_aload_n C (n := 2) (by decide +kernel) rfl rfl,
  trivial⟩
def cl_1 (L : Nat) (xs : Nat → Int32) : List pm_Op := [
  pm_aload 0,
  pm_iload 3,
  pm_push (1),
  pm_bin (fun x y => x + y),
  pm_sald L xs,
  pm_callV 8 91 2,
  pm_cmpeq 577,
  pm_push (0),
  pm_zret,
  pm_aload 1,
  pm_callV 7 57 1,
  pm_aload 2,
  pm_callV 8 92 1,
  pm_cmpeq 577,
  pm_push (0),
  pm_zret,
  pm_aload 1,
  pm_callV 7 58 1,
  pm_aload 2,
  pm_callV 8 99 1,
  pm_cmpeq 577,
  pm_push (0),
  pm_zret,
  pm_aload 1,
  pm_callV 7 59 1,
  pm_aload 2,
  pm_callV 8 100 1,
  pm_cmpeq 577,
  pm_push (0),
  pm_zret]
set_option maxRecDepth 20000 in
set_option maxHeartbeats 4000000 in
theorem sl_1 (p : Program) (l : Launch) (e : Env) (R : Room) (s : State) (m : MethodId) (args : Array Value) (below : List Frame) (meth : Method) (c : Code) (cells slots : Nat) (Qm : State → Prop) (D : va_G) (cs : pm_Cs) (ad : Nat → Nat → Nat) (sz d : Nat) (L : Nat) (xs : Nat → Int32) (C : pm_X p s m args c D cs ad sz RL code 4) (hR : d + 1 ≤ R.frames ∧ 60 * (d + 1) ≤ R.locals ∧ cells ≤ R.cells ∧ slots ≤ R.slots) (hXs : va_X (ad 39 0) L xs s s.heap) (hbl : ad 39 0 < s.heap.size) (hbA : ¬ pm_A sz (ad 39 0)) : pm_All (pm_S (pm_F p l e R s m args below meth c cells slots Qm D cs ad sz 4 bp_law) (pm_HQ (pm_F p l e R s m args below meth c cells slots Qm D cs ad sz 4 bp_law) code bp_law (some .boolean)) (pm_HK l D cs ad sz d)) 30 (cl_1 L xs) := ⟨
  pm_s_aload_n C (n := 0) (by decide +kernel) rfl rfl,
  pm_s_iload_n C (n := 3) (by decide +kernel) rfl rfl,
  pm_s_iconst C (n := 1) (by decide +kernel) rfl rfl,
  pm_s_iadd C (by decide +kernel) rfl,
  pm_s_sald C hXs hbl hbA (by decide +kernel) rfl,
  pm_s_callV C hR (n := 17) (ci := 8) rfl (by decide +kernel) pm_ml_L_17 pm_im91 pm_se91 pm_in_X8 pm_cw91 pm_q91 (by decide) rfl,
  pm_s_cmpeq C (off := 747) (by decide +kernel) (by decide +kernel) rfl,
  pm_s_iconst C (n := 0) (by decide +kernel) rfl rfl,
  pm_s_zret (by decide +kernel) rfl,
  pm_s_aload_n C (n := 1) (by decide +kernel) rfl rfl,
  pm_s_callV C hR (n := 18) (ci := 7) rfl (by decide +kernel) pm_ml_L_18 pm_im57 pm_se57 pm_in_X7 pm_cw57 pm_q57 (by decide) rfl,
  pm_s_aload_n C (n := 2) (by decide +kernel) rfl rfl,
  pm_s_callV C hR (n := 22) (ci := 8) rfl (by decide +kernel) pm_ml_L_22 pm_im92 pm_se92 pm_in_X8 pm_cw92 pm_q92 (by decide) rfl,
  pm_s_cmpeq C (off := 734) (by decide +kernel) (by decide +kernel) rfl,
  pm_s_iconst C (n := 0) (by decide +kernel) rfl rfl,
  pm_s_zret (by decide +kernel) rfl,
  pm_s_aload_n C (n := 1) (by decide +kernel) rfl rfl,
  pm_s_callV C hR (n := 23) (ci := 7) rfl (by decide +kernel) pm_ml_L_23 pm_im58 pm_se58 pm_in_X7 pm_cw58 pm_q58 (by decide) rfl,
  pm_s_aload_n C (n := 2) (by decide +kernel) rfl rfl,
  pm_s_callV C hR (n := 26) (ci := 8) rfl (by decide +kernel) pm_ml_L_26 pm_im99 pm_se99 pm_in_X8 pm_cw99 pm_q99 (by decide) rfl,
  pm_s_cmpeq C (off := 721) (by decide +kernel) (by decide +kernel) rfl,
  pm_s_iconst C (n := 0) (by decide +kernel) rfl rfl,
  pm_s_zret (by decide +kernel) rfl,
  pm_s_aload_n C (n := 1) (by decide +kernel) rfl rfl,
  pm_s_callV C hR (n := 27) (ci := 7) rfl (by decide +kernel) pm_ml_L_27 pm_im59 pm_se59 pm_in_X7 pm_cw59 pm_q59 (by decide) rfl,
  pm_s_aload_n C (n := 2) (by decide +kernel) rfl rfl,
  pm_s_callV C hR (n := 30) (ci := 8) rfl (by decide +kernel) pm_ml_L_30 pm_im100 pm_se100 pm_in_X8 pm_cw100 pm_q100 (by decide) rfl,
  pm_s_cmpeq C (off := 708) (by decide +kernel) (by decide +kernel) rfl,
  pm_s_iconst C (n := 0) (by decide +kernel) rfl rfl,
  pm_s_zret (by decide +kernel) rfl,
  trivial⟩
def cl_2 (L : Nat) (xs : Nat → Int32) : List pm_Op := [
  pm_aload 1,
  pm_aload 0,
  pm_iload 3,
  pm_push (1),
  pm_bin (fun x y => x + y),
  pm_sald L xs,
  pm_aload 0,
  pm_iload 3,
  pm_push (2),
  pm_bin (fun x y => x + y),
  pm_sald L xs,
  pm_callV 7 60 3,
  pm_aload 2,
  pm_aload 0,
  pm_iload 3,
  pm_push (1),
  pm_bin (fun x y => x + y),
  pm_sald L xs,
  pm_aload 0,
  pm_iload 3,
  pm_push (2),
  pm_bin (fun x y => x + y),
  pm_sald L xs,
  pm_callV 8 104 3,
  pm_cmpeq 577,
  pm_push (0),
  pm_zret,
  pm_aload 1,
  pm_aload 0,
  pm_iload 3]
set_option maxRecDepth 20000 in
set_option maxHeartbeats 4000000 in
theorem sl_2 (p : Program) (l : Launch) (e : Env) (R : Room) (s : State) (m : MethodId) (args : Array Value) (below : List Frame) (meth : Method) (c : Code) (cells slots : Nat) (Qm : State → Prop) (D : va_G) (cs : pm_Cs) (ad : Nat → Nat → Nat) (sz d : Nat) (L : Nat) (xs : Nat → Int32) (C : pm_X p s m args c D cs ad sz RL code 4) (hR : d + 1 ≤ R.frames ∧ 60 * (d + 1) ≤ R.locals ∧ cells ≤ R.cells ∧ slots ≤ R.slots) (hXs : va_X (ad 39 0) L xs s s.heap) (hbl : ad 39 0 < s.heap.size) (hbA : ¬ pm_A sz (ad 39 0)) : pm_All (pm_S (pm_F p l e R s m args below meth c cells slots Qm D cs ad sz 4 bp_law) (pm_HQ (pm_F p l e R s m args below meth c cells slots Qm D cs ad sz 4 bp_law) code bp_law (some .boolean)) (pm_HK l D cs ad sz d)) 60 (cl_2 L xs) := ⟨
  pm_s_aload_n C (n := 1) (by decide +kernel) rfl rfl,
  pm_s_aload_n C (n := 0) (by decide +kernel) rfl rfl,
  pm_s_iload_n C (n := 3) (by decide +kernel) rfl rfl,
  pm_s_iconst C (n := 1) (by decide +kernel) rfl rfl,
  pm_s_iadd C (by decide +kernel) rfl,
  pm_s_sald C hXs hbl hbA (by decide +kernel) rfl,
  pm_s_aload_n C (n := 0) (by decide +kernel) rfl rfl,
  pm_s_iload_n C (n := 3) (by decide +kernel) rfl rfl,
  pm_s_iconst C (n := 2) (by decide +kernel) rfl rfl,
  pm_s_iadd C (by decide +kernel) rfl,
  pm_s_sald C hXs hbl hbA (by decide +kernel) rfl,
  pm_s_callV C hR (n := 31) (ci := 7) rfl (by decide +kernel) pm_ml_L_31 pm_im60 pm_se60 pm_in_X7 pm_cw60 pm_q60 (by decide) rfl,
  pm_s_aload_n C (n := 2) (by decide +kernel) rfl rfl,
  pm_s_aload_n C (n := 0) (by decide +kernel) rfl rfl,
  pm_s_iload_n C (n := 3) (by decide +kernel) rfl rfl,
  pm_s_iconst C (n := 1) (by decide +kernel) rfl rfl,
  pm_s_iadd C (by decide +kernel) rfl,
  pm_s_sald C hXs hbl hbA (by decide +kernel) rfl,
  pm_s_aload_n C (n := 0) (by decide +kernel) rfl rfl,
  pm_s_iload_n C (n := 3) (by decide +kernel) rfl rfl,
  pm_s_iconst C (n := 2) (by decide +kernel) rfl rfl,
  pm_s_iadd C (by decide +kernel) rfl,
  pm_s_sald C hXs hbl hbA (by decide +kernel) rfl,
  pm_s_callV C hR (n := 35) (ci := 8) rfl (by decide +kernel) pm_ml_L_35 pm_im104 pm_se104 pm_in_X8 pm_cw104 pm_q104 (by decide) rfl,
  pm_s_cmpeq C (off := 675) (by decide +kernel) (by decide +kernel) rfl,
  pm_s_iconst C (n := 0) (by decide +kernel) rfl rfl,
  pm_s_zret (by decide +kernel) rfl,
  pm_s_aload_n C (n := 1) (by decide +kernel) rfl rfl,
  pm_s_aload_n C (n := 0) (by decide +kernel) rfl rfl,
  pm_s_iload_n C (n := 3) (by decide +kernel) rfl rfl,
  trivial⟩
def cl_3 (L : Nat) (xs : Nat → Int32) : List pm_Op := [
  pm_push (1),
  pm_bin (fun x y => x + y),
  pm_sald L xs,
  pm_callV 7 61 2,
  pm_aload 2,
  pm_aload 0,
  pm_iload 3,
  pm_push (1),
  pm_bin (fun x y => x + y),
  pm_sald L xs,
  pm_callV 8 112 2,
  pm_cmpeq 577,
  pm_push (0),
  pm_zret,
  pm_aload 1,
  pm_aload 0,
  pm_iload 3,
  pm_push (1),
  pm_bin (fun x y => x + y),
  pm_sald L xs,
  pm_callV 7 62 2,
  pm_aload 2,
  pm_aload 0,
  pm_iload 3,
  pm_push (1),
  pm_bin (fun x y => x + y),
  pm_sald L xs,
  pm_callV 8 113 2,
  pm_cmpeq 577,
  pm_push (0)]
set_option maxRecDepth 20000 in
set_option maxHeartbeats 4000000 in
theorem sl_3 (p : Program) (l : Launch) (e : Env) (R : Room) (s : State) (m : MethodId) (args : Array Value) (below : List Frame) (meth : Method) (c : Code) (cells slots : Nat) (Qm : State → Prop) (D : va_G) (cs : pm_Cs) (ad : Nat → Nat → Nat) (sz d : Nat) (L : Nat) (xs : Nat → Int32) (C : pm_X p s m args c D cs ad sz RL code 4) (hR : d + 1 ≤ R.frames ∧ 60 * (d + 1) ≤ R.locals ∧ cells ≤ R.cells ∧ slots ≤ R.slots) (hXs : va_X (ad 39 0) L xs s s.heap) (hbl : ad 39 0 < s.heap.size) (hbA : ¬ pm_A sz (ad 39 0)) : pm_All (pm_S (pm_F p l e R s m args below meth c cells slots Qm D cs ad sz 4 bp_law) (pm_HQ (pm_F p l e R s m args below meth c cells slots Qm D cs ad sz 4 bp_law) code bp_law (some .boolean)) (pm_HK l D cs ad sz d)) 90 (cl_3 L xs) := ⟨
  pm_s_iconst C (n := 1) (by decide +kernel) rfl rfl,
  pm_s_iadd C (by decide +kernel) rfl,
  pm_s_sald C hXs hbl hbA (by decide +kernel) rfl,
  pm_s_callV C hR (n := 36) (ci := 7) rfl (by decide +kernel) pm_ml_L_36 pm_im61 pm_se61 pm_in_X7 pm_cw61 pm_q61 (by decide) rfl,
  pm_s_aload_n C (n := 2) (by decide +kernel) rfl rfl,
  pm_s_aload_n C (n := 0) (by decide +kernel) rfl rfl,
  pm_s_iload_n C (n := 3) (by decide +kernel) rfl rfl,
  pm_s_iconst C (n := 1) (by decide +kernel) rfl rfl,
  pm_s_iadd C (by decide +kernel) rfl,
  pm_s_sald C hXs hbl hbA (by decide +kernel) rfl,
  pm_s_callV C hR (n := 39) (ci := 8) rfl (by decide +kernel) pm_ml_L_39 pm_im112 pm_se112 pm_in_X8 pm_cw112 pm_q112 (by decide) rfl,
  pm_s_cmpeq C (off := 652) (by decide +kernel) (by decide +kernel) rfl,
  pm_s_iconst C (n := 0) (by decide +kernel) rfl rfl,
  pm_s_zret (by decide +kernel) rfl,
  pm_s_aload_n C (n := 1) (by decide +kernel) rfl rfl,
  pm_s_aload_n C (n := 0) (by decide +kernel) rfl rfl,
  pm_s_iload_n C (n := 3) (by decide +kernel) rfl rfl,
  pm_s_iconst C (n := 1) (by decide +kernel) rfl rfl,
  pm_s_iadd C (by decide +kernel) rfl,
  pm_s_sald C hXs hbl hbA (by decide +kernel) rfl,
  pm_s_callV C hR (n := 40) (ci := 7) rfl (by decide +kernel) pm_ml_L_40 pm_im62 pm_se62 pm_in_X7 pm_cw62 pm_q62 (by decide) rfl,
  pm_s_aload_n C (n := 2) (by decide +kernel) rfl rfl,
  pm_s_aload_n C (n := 0) (by decide +kernel) rfl rfl,
  pm_s_iload_n C (n := 3) (by decide +kernel) rfl rfl,
  pm_s_iconst C (n := 1) (by decide +kernel) rfl rfl,
  pm_s_iadd C (by decide +kernel) rfl,
  pm_s_sald C hXs hbl hbA (by decide +kernel) rfl,
  pm_s_callV C hR (n := 43) (ci := 8) rfl (by decide +kernel) pm_ml_L_43 pm_im113 pm_se113 pm_in_X8 pm_cw113 pm_q113 (by decide) rfl,
  pm_s_cmpeq C (off := 629) (by decide +kernel) (by decide +kernel) rfl,
  pm_s_iconst C (n := 0) (by decide +kernel) rfl rfl,
  trivial⟩
def cl_4 (L : Nat) (xs : Nat → Int32) : List pm_Op := [
  pm_zret,
  pm_aload 1,
  pm_callV 7 63 1,
  pm_aload 2,
  pm_callV 8 114 1,
  pm_cmpeq 577,
  pm_push (0),
  pm_zret,
  pm_aload 1,
  pm_callV 7 64 1,
  pm_aload 2,
  pm_callV 8 115 1,
  pm_cmpeq 577,
  pm_push (0),
  pm_zret,
  pm_aload 1,
  pm_aload 0,
  pm_iload 3,
  pm_push (1),
  pm_bin (fun x y => x + y),
  pm_sald L xs,
  pm_ifeq 144,
  pm_push (1),
  pm_goto 145,
  pm_push (0),
  pm_callV 7 65 2,
  pm_aload 2,
  pm_aload 0,
  pm_iload 3,
  pm_push (1)]
set_option maxRecDepth 20000 in
set_option maxHeartbeats 4000000 in
theorem sl_4 (p : Program) (l : Launch) (e : Env) (R : Room) (s : State) (m : MethodId) (args : Array Value) (below : List Frame) (meth : Method) (c : Code) (cells slots : Nat) (Qm : State → Prop) (D : va_G) (cs : pm_Cs) (ad : Nat → Nat → Nat) (sz d : Nat) (L : Nat) (xs : Nat → Int32) (C : pm_X p s m args c D cs ad sz RL code 4) (hR : d + 1 ≤ R.frames ∧ 60 * (d + 1) ≤ R.locals ∧ cells ≤ R.cells ∧ slots ≤ R.slots) (hXs : va_X (ad 39 0) L xs s s.heap) (hbl : ad 39 0 < s.heap.size) (hbA : ¬ pm_A sz (ad 39 0)) : pm_All (pm_S (pm_F p l e R s m args below meth c cells slots Qm D cs ad sz 4 bp_law) (pm_HQ (pm_F p l e R s m args below meth c cells slots Qm D cs ad sz 4 bp_law) code bp_law (some .boolean)) (pm_HK l D cs ad sz d)) 120 (cl_4 L xs) := ⟨
  pm_s_zret (by decide +kernel) rfl,
  pm_s_aload_n C (n := 1) (by decide +kernel) rfl rfl,
  pm_s_callV C hR (n := 44) (ci := 7) rfl (by decide +kernel) pm_ml_L_44 pm_im63 pm_se63 pm_in_X7 pm_cw63 pm_q63 (by decide) rfl,
  pm_s_aload_n C (n := 2) (by decide +kernel) rfl rfl,
  pm_s_callV C hR (n := 47) (ci := 8) rfl (by decide +kernel) pm_ml_L_47 pm_im114 pm_se114 pm_in_X8 pm_cw114 pm_q114 (by decide) rfl,
  pm_s_cmpeq C (off := 616) (by decide +kernel) (by decide +kernel) rfl,
  pm_s_iconst C (n := 0) (by decide +kernel) rfl rfl,
  pm_s_zret (by decide +kernel) rfl,
  pm_s_aload_n C (n := 1) (by decide +kernel) rfl rfl,
  pm_s_callV C hR (n := 48) (ci := 7) rfl (by decide +kernel) pm_ml_L_48 pm_im64 pm_se64 pm_in_X7 pm_cw64 pm_q64 (by decide) rfl,
  pm_s_aload_n C (n := 2) (by decide +kernel) rfl rfl,
  pm_s_callV C hR (n := 51) (ci := 8) rfl (by decide +kernel) pm_ml_L_51 pm_im115 pm_se115 pm_in_X8 pm_cw115 pm_q115 (by decide) rfl,
  pm_s_cmpeq C (off := 603) (by decide +kernel) (by decide +kernel) rfl,
  pm_s_iconst C (n := 0) (by decide +kernel) rfl rfl,
  pm_s_zret (by decide +kernel) rfl,
  pm_s_aload_n C (n := 1) (by decide +kernel) rfl rfl,
  pm_s_aload_n C (n := 0) (by decide +kernel) rfl rfl,
  pm_s_iload_n C (n := 3) (by decide +kernel) rfl rfl,
  pm_s_iconst C (n := 1) (by decide +kernel) rfl rfl,
  pm_s_iadd C (by decide +kernel) rfl,
  pm_s_sald C hXs hbl hbA (by decide +kernel) rfl,
  pm_s_ifeq C (off := 7) (by decide +kernel) (by decide +kernel) rfl,
  pm_s_iconst C (n := 1) (by decide +kernel) rfl rfl,
  pm_s_goto C (off := 4) (by decide +kernel) (by decide +kernel),
  pm_s_iconst C (n := 0) (by decide +kernel) rfl rfl,
  pm_s_callV C hR (n := 52) (ci := 7) rfl (by decide +kernel) pm_ml_L_52 pm_im65 pm_se65 pm_in_X7 pm_cw65 pm_q65 (by decide) rfl,
  pm_s_aload_n C (n := 2) (by decide +kernel) rfl rfl,
  pm_s_aload_n C (n := 0) (by decide +kernel) rfl rfl,
  pm_s_iload_n C (n := 3) (by decide +kernel) rfl rfl,
  pm_s_iconst C (n := 1) (by decide +kernel) rfl rfl,
  trivial⟩
