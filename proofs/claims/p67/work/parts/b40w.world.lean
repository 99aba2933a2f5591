/-! THE START: what is foreign is there -/
def FL : List Cond := flatC (Cond.and given_1 narrow_1)
theorem va_En.cg {E d : String} {nm : List String} {F : List (String × String × String × List Int32)} {ad ad' : Nat → Nat} {A : Nat → Prop} {U : State} {H : Heap} (h : va_En E d nm F ad A U H) (e : ∀ i, i < nm.length → ad' i = ad i) : va_En E d nm F ad' A U H :=
  ⟨fun i hi => by rw [e i hi]; exact h.1 i hi, fun i j hi hj z => h.2 i j hi hj (by rw [← e i hi, ← e j hj]; exact z)⟩
theorem va_Ef.cg {N : Nat} {o n d : String} {v v' : Nat → Value} {ad ad' : Nat → Nat} {A : Nat → Prop} {U : State} {H : Heap} (h : va_Ef N o n d v ad A U H) (e : ∀ i, i < N → ad' i = ad i) (e2 : ∀ i, i < N → v' i = v i) : va_Ef N o n d v' ad' A U H := fun i hi => by rw [e i hi, e2 i hi]; exact h i hi
theorem va_T.cg {ty : FieldType} {t N : Nat} {f f' : Nat → Value} {A : Nat → Prop} {U : State} {H : Heap} (h : va_T ty t N f A U H) (e : ∀ j, j < N → f' j = f j) : va_T ty t N f' A U H := by
  obtain ⟨c, h1, h2, h3, h4, h5, h6, h7⟩ := h
  exact ⟨c, h1, h2, h3, h4, h5, fun j hj => by rw [e j hj]; exact h6 j hj, h7⟩
theorem vk_S.cg {N : Nat} {len : List Nat} {byt : List (List Int32)} {adK adV adK' adV' : Nat → Nat} {A : Nat → Prop} {U : State} {H : Heap} (h : vk_S N len byt adK adV A U H) (e : ∀ i, i < N → adK' i = adK i) (e2 : ∀ i, i < N → adV' i = adV i) : vk_S N len byt adK' adV' A U H :=
  ⟨fun i hi => by rw [e i hi, e2 i hi]; exact h.1 i hi, fun i j hi hj z => h.2 i j hi hj (by rw [← e i hi, ← e j hj]; exact z)⟩
theorem va_OF.u {o n d : String} {v w : Value} {t : Nat} {A : Nat → Prop} {U : State} {H : Heap} (h1 : va_OF o n d v t A U H) (h2 : va_OF o n d w t A U H) : v = w := by
  obtain ⟨cf, k, i, f, c, a1, -, a2, -, a3, -⟩ := h1
  obtain ⟨cf', k', i', f', c', b1, -, b2, -, b3, -⟩ := h2
  cases a1.symm.trans b1
  cases a2.symm.trans b2
  exact Option.some.inj (a3.symm.trans b3)
theorem va_T.u {ty : FieldType} {t N N' : Nat} {f f' : Nat → Value} {A : Nat → Prop} {U : State} {H : Heap} (hN : N < 2147483648) (hN' : N' < 2147483648) (h1 : va_T ty t N f A U H) (h2 : va_T ty t N' f' A U H) : N = N' ∧ ∀ j, j < N → f j = f' j := by
  obtain ⟨c, a1, -, -, a4, a5, a6, -⟩ := h1
  obtain ⟨c', b1, -, -, b4, b5, b6, -⟩ := h2
  cases a1.symm.trans b1
  have e : nI N = nI N' := a5.symm.trans b5
  have e2 : N = N' := by rw [nJ_i hN hN'] at e; exact e
  refine ⟨e2, fun j hj => Option.some.inj ((a6 j hj).symm.trans (b6 j (by omega)))⟩
/-- an enum's constants, told apart by their ordinals -/
theorem k_En {args : Array Value} {s : State} {E d : String} {nm : List String} {A : Nat → Prop} (hl : ∀ i, i < nm.length → (Cond.laysStatic E (nm.getD i "") d).before args s = true) (hini : (Cond.initialized E).before args s = true)
    (hex : ∀ i, i < nm.length → (Cond.exactly (.static E (nm.getD i "") d) E).before args s = true) (hf : ∀ i, i < nm.length → (Cond.eq (.field (.static E (nm.getD i "") d) "java/lang/Enum" "ordinal" "I") (.int (nI i))).before args s = true) (hn : nm.length < 1000) (F : List (String × String × String × List Int32)) (hF : ∀ q ∈ F, q.1 = "java/lang/Enum" ∧ q.2.1 = "ordinal" ∧ q.2.2.1 = "I" ∧ ∀ i, i < nm.length → q.2.2.2.getD i 0 = nI i)
    (hA : ∀ a : Nat, a < s.heap.size → ¬ A a) : ∃ ad : Nat → Nat, va_En E d nm F ad A s s.heap ∧ ∀ i, i < nm.length → (Term.static E (nm.getD i "") d).eval args s none [] s = some (.ref (ad i)) := by
  have h0 : ∀ i : Nat, ∃ t : Nat, i < nm.length → (Term.static E (nm.getD i "") d).eval args s none [] s = some (.ref t) ∧ va_O E t A s s.heap := by
    intro i
    by_cases hi : i < nm.length
    · obtain ⟨a, c, cell, k, q1, q2, q3, q4, q5, q6, -⟩ := Cond.exactly_spec (hex i hi)
      exact ⟨a, fun _ => ⟨q1, cell, q3, q5, by rw [q6]; exact q2, hA a (Array.getElem?_eq_some_iff.mp q3).1⟩⟩
    · exact ⟨0, fun h => absurd h hi⟩
  obtain ⟨ad, had⟩ := Classical.axiomOfChoice h0
  have hO : ∀ i, i < nm.length → va_OF "java/lang/Enum" "ordinal" "I" (.int (nI i)) (ad i) A s s.heap := fun i hi => vk_OFof (had i hi).1 (va_eqt (hf i hi)) hA
  refine ⟨ad, ⟨fun i hi => ⟨va_Zref (hl i hi) hini (had i hi).1 hA, (had i hi).2, fun q hq => ?_⟩, fun i j hi hj e => ?_⟩, fun i hi => (had i hi).1⟩
  · obtain ⟨e1, e2, e3, e4⟩ := hF q hq
    rw [e1, e2, e3, e4 i hi]
    exact hO i hi
  · have h1 := hO i hi
    rw [e] at h1
    have h2 := va_OF.u h1 (hO j hj)
    have h3 : nI i = nI j := Value.int.inj h2
    rw [nJ_i (by omega) (by omega)] at h3
    exact h3
theorem strD : ∀ i, i < 42 → ∀ j, j < 42 → lenT.getD i 0 = lenT.getD j 0 → (∀ k, k < lenT.getD i 0 → (bytT.getD i []).getD k 0 = (bytT.getD j []).getD k 0) → i = j := by decide +kernel
theorem lenS : ∀ i, i < 42 → lenT.getD i 0 < 100 := by decide +kernel
def tmS : List Term := [(.string "WishMarket$Item" 85), (.string "WishMarket$Item" 91), (.string "WishMarket$Item" 94), (.string "WishMarket$Item" 97), (.string "WishMarket$Item" 100), (.string "WishMarket$Item" 103), (.string "WishMarket$Item" 106), (.string "WishMarket$Item" 109), (.string "WishMarket$Item" 112), (.string "WishMarket$Item" 115), (.string "WishMarket$Item" 118), (.string "WishMarket$Item" 121), (.string "WishMarket$Item" 124), (.string "WishMarket$Item" 127), (.string "WishMarket$Item" 130), (.string "WishMarket$Item" 133), (.string "WishMarket$Item" 136), (.string "WishMarket$Item" 139), (.string "WishMarket$Item" 142), (.string "WishMarket$SetupReader" 73), (.string "WishMarket$SetupReader" 273), (.string "WishMarket$SetupReader" 278), (.string "WishMarket$SetupReader" 312), (.string "WishMarket$SetupReader" 314), (.string "WishMarket$SetupReader" 307), (.string "WishMarketLaw" 119), (.string "WishMarketLaw" 127), (.string "WishMarketLaw" 132), (.string "WishMarketLaw" 134), (.string "WishMarketLaw" 136), (.string "WishMarketLaw" 145), (.string "WishMarketLaw" 147), (.string "WishMarketLaw" 149), (.string "WishMarketLaw" 151), (.string "WishMarketLaw" 153), (.string "WishMarketLaw" 157), (.string "WishMarketLaw" 159), (.string "WishMarketLaw" 161), (.string "WishMarketLaw" 163), (.string "WishMarketLaw" 165), (.string "WishMarketLaw" 167), (.string "WishMarketLaw" 169), (.string "WishMarket" 60), (.string "WishMarket$SetupReader" 65), (.string "WishMarket" 71), (.string "WishMarket" 340), (.string "WishMarket" 342), (.string "WishMarket" 348), (.string "WishMarket" 350), (.string "WishMarket" 338)]
abbrev tmG (i : Nat) : Term := tmS.getD i (.int 0)
section WS
variable {args : Array Value} {s : State} {A : Nat → Prop}
def fl_s1P : List Nat := [934, 943, 953, 961, 971, 978, 987, 994, 1002, 1012, 1021, 1031, 1039, 1047, 1055, 1066, 1073, 1084, 929, 491, 526, 535, 546, 552, 560, 731, 742, 754, 763, 776, 785, 796, 808, 815, 822, 836, 848, 859, 869, 877, 887, 897, 447, 501, 568, 592, 620, 646, 674, 698]
theorem fl_s1A : ∀ i, i < 50 → FL[fl_s1P.getD i 0]? = some (Cond.exactly (tmG i) "java/lang/String") := by decide +kernel
theorem fl_s1 (i : Nat) (h : i < 50) : Cond.exactly (tmG i) "java/lang/String" ∈ FL := List.mem_of_getElem? (fl_s1A i h)
def fl_s2P : List Nat := [935, 944, 954, 962, 972, 979, 988, 995, 1003, 1013, 1022, 1032, 1040, 1048, 1056, 1067, 1074, 1085, 930, 492, 527, 536, 547, 553, 561, 732, 743, 755, 764, 777, 786, 797, 809, 816, 823, 837, 849, 860, 870, 878, 888, 898]
theorem fl_s2A : ∀ i, i < 42 → FL[fl_s2P.getD i 0]? = some (Cond.eq (.field (tmG i) "java/lang/String" "coder" "B") (.int 0)) := by decide +kernel
theorem fl_s2 (i : Nat) (h : i < 42) : Cond.eq (.field (tmG i) "java/lang/String" "coder" "B") (.int 0) ∈ FL := List.mem_of_getElem? (fl_s2A i h)
def fl_s3P : List Nat := [936, 945, 955, 963, 973, 980, 989, 996, 1004, 1014, 1023, 1033, 1041, 1049, 1057, 1068, 1075, 1086, 931, 493, 528, 537, 548, 554, 562, 733, 744, 756, 765, 778, 787, 798, 810, 817, 824, 838, 850, 861, 871, 879, 889, 899]
theorem fl_s3A : ∀ i, i < 42 → FL[fl_s3P.getD i 0]? = some (Cond.arrayOf (.field (tmG i) "java/lang/String" "value" "[B") .byte) := by decide +kernel
theorem fl_s3 (i : Nat) (h : i < 42) : Cond.arrayOf (.field (tmG i) "java/lang/String" "value" "[B") .byte ∈ FL := List.mem_of_getElem? (fl_s3A i h)
def fl_s4P : List Nat := [937, 946, 956, 964, 974, 981, 990, 997, 1005, 1015, 1024, 1034, 1042, 1050, 1058, 1069, 1076, 1087, 932, 494, 529, 538, 549, 555, 563, 734, 745, 757, 766, 779, 788, 799, 811, 818, 825, 839, 851, 862, 872, 880, 890, 900]
theorem fl_s4A : ∀ i, i < 42 → FL[fl_s4P.getD i 0]? = some (Cond.eq (.length (.field (tmG i) "java/lang/String" "value" "[B")) (.int (Int32.ofNat (lenT.getD i 0)))) := by decide +kernel
theorem fl_s4 (i : Nat) (h : i < 42) : Cond.eq (.length (.field (tmG i) "java/lang/String" "value" "[B")) (.int (Int32.ofNat (lenT.getD i 0))) ∈ FL := List.mem_of_getElem? (fl_s4A i h)
def fl_s5P : List (List Nat) := [[938, 939, 940, 941, 942], [947, 948, 949, 950, 951, 952], [957, 958, 959, 960], [965, 966, 967, 968, 969, 970], [975, 976, 977], [982, 983, 984, 985, 986], [991, 992, 993], [998, 999, 1000, 1001], [1006, 1007, 1008, 1009, 1010, 1011], [1016, 1017, 1018, 1019, 1020], [1025, 1026, 1027, 1028, 1029, 1030], [1035, 1036, 1037, 1038], [1043, 1044, 1045, 1046], [1051, 1052, 1053, 1054], [1059, 1060, 1061, 1062, 1063, 1064, 1065], [1070, 1071, 1072], [1077, 1078, 1079, 1080, 1081, 1082, 1083], [1088, 1089, 1090, 1091, 1092, 1093], [], [495, 496, 497, 498, 499, 500], [530, 531, 532, 533, 534], [539, 540, 541, 542, 543, 544, 545], [550, 551], [556, 557, 558, 559], [564, 565, 566, 567], [735, 736, 737, 738, 739, 740, 741], [746, 747, 748, 749, 750, 751, 752, 753], [758, 759, 760, 761, 762], [767, 768, 769, 770, 771, 772, 773, 774, 775], [780, 781, 782, 783, 784], [789, 790, 791, 792, 793, 794, 795], [800, 801, 802, 803, 804, 805, 806, 807], [812, 813, 814], [819, 820, 821], [826, 827, 828, 829, 830, 831], [840, 841, 842, 843, 844, 845, 846, 847], [852, 853, 854, 855, 856, 857, 858], [863, 864, 865, 866, 867, 868], [873, 874, 875, 876], [881, 882, 883, 884, 885, 886], [891, 892, 893, 894, 895, 896], [901, 902, 903, 904, 905, 906, 907, 908, 909, 910, 911, 912, 913, 914, 915, 916, 917, 918, 919, 920, 921]]
theorem fl_s5A : ∀ i, i < 42 → ∀ j, j < lenT.getD i 0 → FL[(fl_s5P.getD i []).getD j 0]? = some (Cond.eq (.elem (.field (tmG i) "java/lang/String" "value" "[B") (.int (Int32.ofNat j))) (.int ((bytT.getD i []).getD j 0))) := by decide +kernel
theorem fl_s5 (i : Nat) (h : i < 42) (j : Nat) (h2 : j < lenT.getD i 0) : Cond.eq (.elem (.field (tmG i) "java/lang/String" "value" "[B") (.int (Int32.ofNat j))) (.int ((bytT.getD i []).getD j 0)) ∈ FL := List.mem_of_getElem? (fl_s5A i h j h2)
def fl_k1P : List Nat := [4, 9, 13, 15, 17, 19, 11]
theorem fl_k1A : ∀ i, i < 7 → FL[fl_k1P.getD i 0]? = some (Cond.exactly (.static RX2 (knN.getD i "") "LWishMarket$Kind;") RX2) := by decide +kernel
theorem fl_k1 (i : Nat) (h : i < 7) : Cond.exactly (.static RX2 (knN.getD i "") "LWishMarket$Kind;") RX2 ∈ FL := List.mem_of_getElem? (fl_k1A i h)
def fl_k2P : List Nat := [5, 10, 14, 16, 18, 20, 12]
theorem fl_k2A : ∀ i, i < 7 → FL[fl_k2P.getD i 0]? = some (Cond.eq (.field (.static RX2 (knN.getD i "") "LWishMarket$Kind;") "java/lang/Enum" "ordinal" "I") (.int (nI i))) := by decide +kernel
theorem fl_k2 (i : Nat) (h : i < 7) : Cond.eq (.field (.static RX2 (knN.getD i "") "LWishMarket$Kind;") "java/lang/Enum" "ordinal" "I") (.int (nI i)) ∈ FL := List.mem_of_getElem? (fl_k2A i h)
def fl_i1P : List Nat := [291, 295, 299, 303, 307, 311, 315, 319, 322, 325, 328, 331, 334, 337, 340, 343, 346, 349, 49]
theorem fl_i1A : ∀ i, i < 19 → FL[fl_i1P.getD i 0]? = some (Cond.exactly (.static RX1 (itN.getD i "") "LWishMarket$Item;") RX1) := by decide +kernel
theorem fl_i1 (i : Nat) (h : i < 19) : Cond.exactly (.static RX1 (itN.getD i "") "LWishMarket$Item;") RX1 ∈ FL := List.mem_of_getElem? (fl_i1A i h)
def fl_i2P : List Nat := [292, 296, 300, 304, 308, 312, 316, 320, 323, 326, 329, 332, 335, 338, 341, 344, 347, 350, 50]
theorem fl_i2A : ∀ i, i < 19 → FL[fl_i2P.getD i 0]? = some (Cond.eq (.field (.static RX1 (itN.getD i "") "LWishMarket$Item;") "java/lang/Enum" "ordinal" "I") (.int (nI i))) := by decide +kernel
theorem fl_i2 (i : Nat) (h : i < 19) : Cond.eq (.field (.static RX1 (itN.getD i "") "LWishMarket$Item;") "java/lang/Enum" "ordinal" "I") (.int (nI i)) ∈ FL := List.mem_of_getElem? (fl_i2A i h)
def fl_i3P : List Nat := [293, 297, 301, 305, 309, 313, 317, 321, 324, 327, 330, 333, 336, 339, 342, 345, 348, 351, 51]
theorem fl_i3A : ∀ i, i < 19 → FL[fl_i3P.getD i 0]? = some (Cond.eq (.field (.static RX1 (itN.getD i "") "LWishMarket$Item;") RX1 "word" "Ljava/lang/String;") (tmG i)) := by decide +kernel
theorem fl_i3 (i : Nat) (h : i < 19) : Cond.eq (.field (.static RX1 (itN.getD i "") "LWishMarket$Item;") RX1 "word" "Ljava/lang/String;") (tmG i) ∈ FL := List.mem_of_getElem? (fl_i3A i h)
def fl_i4P : List Nat := [30, 31, 32, 33, 34, 35, 36, 37, 38, 39, 40, 41, 42, 43, 44, 45, 46, 47, 48]
theorem fl_i4A : ∀ i, i < 19 → FL[fl_i4P.getD i 0]? = some (Cond.eq (.elem (.static RX9 "ITEMS" "[LWishMarket$Item;") (.int (Int32.ofNat i))) (.static RX1 (itN.getD i "") "LWishMarket$Item;")) := by decide +kernel
theorem fl_i4 (i : Nat) (h : i < 19) : Cond.eq (.elem (.static RX9 "ITEMS" "[LWishMarket$Item;") (.int (Int32.ofNat i))) (.static RX1 (itN.getD i "") "LWishMarket$Item;") ∈ FL := List.mem_of_getElem? (fl_i4A i h)
def fl_wP : List Nat := [55, 56, 57, 58, 59, 60, 61, 62, 63, 64, 65, 66, 67, 68, 69, 70, 71, 72, 73]
theorem fl_wA : ∀ i, i < 19 → FL[fl_wP.getD i 0]? = some (Cond.eq (.elem (.static RX0 "$SwitchMap$WishMarket$Item" "[I") (.int (Int32.ofNat i))) (.int (if i < 18 then nI (i + 1) else 0))) := by decide +kernel
theorem fl_w (i : Nat) (h : i < 19) : Cond.eq (.elem (.static RX0 "$SwitchMap$WishMarket$Item" "[I") (.int (Int32.ofNat i))) (.int (if i < 18 then nI (i + 1) else 0)) ∈ FL := List.mem_of_getElem? (fl_wA i h)
def fl_tP : List Nat := [184, 185, 186, 187, 188, 189, 190, 191, 192, 193, 194, 195, 196, 197, 198, 199, 200, 201, 202, 203, 204, 205, 206, 207, 208, 209, 210, 211, 212, 213, 214, 215, 216, 217, 218, 219, 220, 221, 222, 223, 224, 225, 226, 227, 228, 229, 230, 231, 232, 233, 234, 235, 236, 237, 238, 239, 240, 241, 242, 243, 244, 245, 246, 247, 248, 249, 250, 251, 252, 253, 254, 255, 256, 257, 258, 259, 260, 261, 262, 263, 264, 265, 266, 267, 268, 269, 270, 271, 272, 273, 274, 275, 276, 277, 278, 279, 280, 281, 282, 283]
theorem fl_tA : ∀ i, i < 100 → FL[fl_tP.getD i 0]? = some (Cond.eq (.elem (.static "java/lang/Integer" "DigitTens" "[B") (.int (Int32.ofNat i))) (.int (nI (48 + i / 10)))) := by decide +kernel
theorem fl_t (i : Nat) (h : i < 100) : Cond.eq (.elem (.static "java/lang/Integer" "DigitTens" "[B") (.int (Int32.ofNat i))) (.int (nI (48 + i / 10))) ∈ FL := List.mem_of_getElem? (fl_tA i h)
def fl_oP : List Nat := [81, 82, 83, 84, 85, 86, 87, 88, 89, 90, 91, 92, 93, 94, 95, 96, 97, 98, 99, 100, 101, 102, 103, 104, 105, 106, 107, 108, 109, 110, 111, 112, 113, 114, 115, 116, 117, 118, 119, 120, 121, 122, 123, 124, 125, 126, 127, 128, 129, 130, 131, 132, 133, 134, 135, 136, 137, 138, 139, 140, 141, 142, 143, 144, 145, 146, 147, 148, 149, 150, 151, 152, 153, 154, 155, 156, 157, 158, 159, 160, 161, 162, 163, 164, 165, 166, 167, 168, 169, 170, 171, 172, 173, 174, 175, 176, 177, 178, 179, 180]
theorem fl_oA : ∀ i, i < 100 → FL[fl_oP.getD i 0]? = some (Cond.eq (.elem (.static "java/lang/Integer" "DigitOnes" "[B") (.int (Int32.ofNat i))) (.int (nI (48 + i % 10)))) := by decide +kernel
theorem fl_o (i : Nat) (h : i < 100) : Cond.eq (.elem (.static "java/lang/Integer" "DigitOnes" "[B") (.int (Int32.ofNat i))) (.int (nI (48 + i % 10))) ∈ FL := List.mem_of_getElem? (fl_oA i h)
theorem fl_a1 : Cond.arrayOf (.static RX9 "ITEMS" "[LWishMarket$Item;") (.object RX1) ∈ FL := List.mem_of_getElem? (i := 27) (by decide +kernel)
theorem fl_a2 : Cond.eq (.length (.static RX9 "ITEMS" "[LWishMarket$Item;")) (.int (Int32.ofNat 19)) ∈ FL := List.mem_of_getElem? (i := 28) (by decide +kernel)
theorem fl_b1 : Cond.arrayOf (.static RX0 "$SwitchMap$WishMarket$Item" "[I") .int ∈ FL := List.mem_of_getElem? (i := 53) (by decide +kernel)
theorem fl_b2 : Cond.eq (.length (.static RX0 "$SwitchMap$WishMarket$Item" "[I")) (.int (Int32.ofNat 19)) ∈ FL := List.mem_of_getElem? (i := 54) (by decide +kernel)
theorem fl_c1 : Cond.arrayOf (.static "java/lang/Integer" "DigitTens" "[B") .byte ∈ FL := List.mem_of_getElem? (i := 182) (by decide +kernel)
theorem fl_c2 : Cond.eq (.length (.static "java/lang/Integer" "DigitTens" "[B")) (.int (Int32.ofNat 100)) ∈ FL := List.mem_of_getElem? (i := 183) (by decide +kernel)
theorem fl_d1 : Cond.arrayOf (.static "java/lang/Integer" "DigitOnes" "[B") .byte ∈ FL := List.mem_of_getElem? (i := 79) (by decide +kernel)
theorem fl_d2 : Cond.eq (.length (.static "java/lang/Integer" "DigitOnes" "[B")) (.int (Int32.ofNat 100)) ∈ FL := List.mem_of_getElem? (i := 80) (by decide +kernel)
theorem fl_e1 : Cond.isRef (.static "java/lang/Throwable" "UNASSIGNED_STACK" Bundle.steD) ∈ FL := List.mem_of_getElem? (i := 7) (by decide +kernel)
theorem fl_e2 : Cond.isRef (.static "java/lang/Throwable" "SUPPRESSED_SENTINEL" Bundle.listD) ∈ FL := List.mem_of_getElem? (i := 8) (by decide +kernel)
theorem fl_e3 : Cond.eq (.static "java/lang/String" "COMPACT_STRINGS" "Z") (.int 1) ∈ FL := List.mem_of_getElem? (i := 6) (by decide +kernel)
theorem fl_e4 : Cond.isRef (.static "jdk/internal/util/Preconditions" "SIOOBE_FORMATTER" "Ljava/util/function/BiFunction;") ∈ FL := List.mem_of_getElem? (i := 21) (by decide +kernel)
theorem fl_j1 : Cond.arrayOf (.static "java/util/ArrayList" "DEFAULTCAPACITY_EMPTY_ELEMENTDATA" "[Ljava/lang/Object;") (.object "java/lang/Object") ∈ FL := List.mem_of_getElem? (i := 75) (by decide +kernel)
theorem fl_j2 : Cond.eq (.length (.static "java/util/ArrayList" "DEFAULTCAPACITY_EMPTY_ELEMENTDATA" "[Ljava/lang/Object;")) (.int (Int32.ofNat 0)) ∈ FL := List.mem_of_getElem? (i := 77) (by decide +kernel)
theorem fl_j3 : Cond.exactly (.static "jdk/internal/util/ArraysSupport" "U" "Ljdk/internal/misc/Unsafe;") "jdk/internal/misc/Unsafe" ∈ FL := List.mem_of_getElem? (i := 286) (by decide +kernel)
theorem fl_j4 : Cond.eq (.static "jdk/internal/misc/Unsafe" "ARRAY_LONG_BASE_OFFSET" "I") (.int 16) ∈ FL := List.mem_of_getElem? (i := 284) (by decide +kernel)
theorem fl_j5 : Cond.eq (.static "jdk/internal/util/ArraysSupport" "LOG2_ARRAY_LONG_INDEX_SCALE" "I") (.int 3) ∈ FL := List.mem_of_getElem? (i := 285) (by decide +kernel)
theorem fl_j6 : Cond.eq (.static "jdk/internal/util/ArraysSupport" "LOG2_ARRAY_INT_INDEX_SCALE" "I") (.int 2) ∈ FL := List.mem_of_getElem? (i := 290) (by decide +kernel)
theorem fl_n {q : String × String} (hq : q ∈ ncT) : Cond.not (.castable q.1 q.2) ∈ FL := by cases hq
def fl_qF : List Nat := [0, 0, 0, 0, 0, 0, 0, 0, 0, 0, 0, 0, 0, 0, 0, 0, 0, 0, 0, 0, 0, 0, 0, 0, 1, 0, 0, 0, 0, 0, 0, 0, 0, 0, 0, 0, 0, 0, 0, 0, 0, 0, 0, 0, 0, 0, 0, 0, 0, 0, 0]
def fl_qP : List Nat := [0, 0, 0, 0, 0, 0, 0, 0, 0, 0, 0, 0, 0, 0, 0, 0, 0, 0, 0, 0, 0, 0, 0, 0, 933, 0, 0, 0, 0, 0, 0, 0, 0, 0, 0, 0, 0, 0, 0, 0, 0, 0, 0, 0, 0, 0, 0, 0, 0, 0, 0]
abbrev sq (i : Nat) : String × Nat × String × Nat := strT.getD i ("", 0, "", 0)
theorem fl_qA : ∀ i, i < strT.length → (fl_qF.getD i 0 = 0 ∧ (.string (sq i).1 (sq i).2.1 : Term) = tmG (sq i).2.2.2) ∨ (fl_qF.getD i 0 = 1 ∧ FL[fl_qP.getD i 0]? = some (Cond.eq (.string (sq i).1 (sq i).2.1) (tmG (sq i).2.2.2))) ∨ (fl_qF.getD i 0 = 2 ∧ FL[fl_qP.getD i 0]? = some (Cond.eq (tmG (sq i).2.2.2) (.string (sq i).1 (sq i).2.1))) := by decide +kernel
end WS
