/-! THE CONSTRUCTORS, decoded -/
abbrev b_TF_init : ByteArray := prog_1_method_1_code
theorem d_TF_init_0 : decode b_TF_init 0 = .ok (.aload_n 0, 1) := by decide +kernel
theorem d_TF_init_1 : decode b_TF_init 1 = .ok (.invokespecial 1, 3) := by decide +kernel
theorem d_TF_init_4 : decode b_TF_init 4 = .ok (.aload_n 0, 1) := by decide +kernel
theorem d_TF_init_5 : decode b_TF_init 5 = .ok (.bipush 60, 2) := by decide +kernel
theorem d_TF_init_7 : decode b_TF_init 7 = .ok (.newarray .char, 2) := by decide +kernel
theorem d_TF_init_9 : decode b_TF_init 9 = .ok (.putfield 9, 3) := by decide +kernel
theorem d_TF_init_12 : decode b_TF_init 12 = .ok (.aload_n 0, 1) := by decide +kernel
theorem d_TF_init_13 : decode b_TF_init 13 = .ok (.iconst 0, 1) := by decide +kernel
theorem d_TF_init_14 : decode b_TF_init 14 = .ok (.putfield 13, 3) := by decide +kernel
theorem d_TF_init_17 : decode b_TF_init 17 = .ok (.aload_n 0, 1) := by decide +kernel
theorem d_TF_init_18 : decode b_TF_init 18 = .ok (.new 17, 3) := by decide +kernel
theorem d_TF_init_21 : decode b_TF_init 21 = .ok (.dup, 1) := by decide +kernel
theorem d_TF_init_22 : decode b_TF_init 22 = .ok (.invokespecial 19, 3) := by decide +kernel
theorem d_TF_init_25 : decode b_TF_init 25 = .ok (.putfield 20, 3) := by decide +kernel
theorem d_TF_init_28 : decode b_TF_init 28 = .ok (.aload_n 0, 1) := by decide +kernel
theorem d_TF_init_29 : decode b_TF_init 29 = .ok (.new 24, 3) := by decide +kernel
theorem d_TF_init_32 : decode b_TF_init 32 = .ok (.dup, 1) := by decide +kernel
theorem d_TF_init_33 : decode b_TF_init 33 = .ok (.invokespecial 26, 3) := by decide +kernel
theorem d_TF_init_36 : decode b_TF_init 36 = .ok (.putfield 27, 3) := by decide +kernel
theorem d_TF_init_39 : decode b_TF_init 39 = .ok (.aload_n 0, 1) := by decide +kernel
theorem d_TF_init_40 : decode b_TF_init 40 = .ok (.aload_n 0, 1) := by decide +kernel
theorem d_TF_init_41 : decode b_TF_init 41 = .ok (.getfield 27, 3) := by decide +kernel
theorem d_TF_init_44 : decode b_TF_init 44 = .ok (.getfield 31, 3) := by decide +kernel
theorem d_TF_init_47 : decode b_TF_init 47 = .ok (.putfield 35, 3) := by decide +kernel
theorem d_TF_init_50 : decode b_TF_init 50 = .ok (.aload_n 0, 1) := by decide +kernel
theorem d_TF_init_51 : decode b_TF_init 51 = .ok (.new 36, 3) := by decide +kernel
theorem d_TF_init_54 : decode b_TF_init 54 = .ok (.dup, 1) := by decide +kernel
theorem d_TF_init_55 : decode b_TF_init 55 = .ok (.invokespecial 38, 3) := by decide +kernel
theorem d_TF_init_58 : decode b_TF_init 58 = .ok (.putfield 39, 3) := by decide +kernel
theorem d_TF_init_61 : decode b_TF_init 61 = .ok (.aload_n 0, 1) := by decide +kernel
theorem d_TF_init_62 : decode b_TF_init 62 = .ok (.new 36, 3) := by decide +kernel
theorem d_TF_init_65 : decode b_TF_init 65 = .ok (.dup, 1) := by decide +kernel
theorem d_TF_init_66 : decode b_TF_init 66 = .ok (.invokespecial 38, 3) := by decide +kernel
theorem d_TF_init_69 : decode b_TF_init 69 = .ok (.putfield 43, 3) := by decide +kernel
theorem d_TF_init_72 : decode b_TF_init 72 = .ok (.aload_n 0, 1) := by decide +kernel
theorem d_TF_init_73 : decode b_TF_init 73 = .ok (.new 46, 3) := by decide +kernel
theorem d_TF_init_76 : decode b_TF_init 76 = .ok (.dup, 1) := by decide +kernel
theorem d_TF_init_77 : decode b_TF_init 77 = .ok (.invokespecial 48, 3) := by decide +kernel
theorem d_TF_init_80 : decode b_TF_init 80 = .ok (.putfield 49, 3) := by decide +kernel
theorem d_TF_init_83 : decode b_TF_init 83 = .ok (.aload_n 0, 1) := by decide +kernel
theorem d_TF_init_84 : decode b_TF_init 84 = .ok (.iconst 2, 1) := by decide +kernel
theorem d_TF_init_85 : decode b_TF_init 85 = .ok (.anewarray 36, 3) := by decide +kernel
theorem d_TF_init_88 : decode b_TF_init 88 = .ok (.putfield 53, 3) := by decide +kernel
theorem d_TF_init_91 : decode b_TF_init 91 = .ok (.aload_n 0, 1) := by decide +kernel
theorem d_TF_init_92 : decode b_TF_init 92 = .ok (.iconst 2, 1) := by decide +kernel
theorem d_TF_init_93 : decode b_TF_init 93 = .ok (.newarray .boolean, 2) := by decide +kernel
theorem d_TF_init_95 : decode b_TF_init 95 = .ok (.putfield 57, 3) := by decide +kernel
theorem d_TF_init_98 : decode b_TF_init 98 = .ok (.aload_n 0, 1) := by decide +kernel
theorem d_TF_init_99 : decode b_TF_init 99 = .ok (.new 61, 3) := by decide +kernel
theorem d_TF_init_102 : decode b_TF_init 102 = .ok (.dup, 1) := by decide +kernel
theorem d_TF_init_103 : decode b_TF_init 103 = .ok (.invokespecial 63, 3) := by decide +kernel
theorem d_TF_init_106 : decode b_TF_init 106 = .ok (.putfield 64, 3) := by decide +kernel
theorem d_TF_init_109 : decode b_TF_init 109 = .ok (.aload_n 0, 1) := by decide +kernel
theorem d_TF_init_110 : decode b_TF_init 110 = .ok (.lconst 0, 1) := by decide +kernel
theorem d_TF_init_111 : decode b_TF_init 111 = .ok (.putfield 68, 3) := by decide +kernel
theorem d_TF_init_114 : decode b_TF_init 114 = .ok (.iconst 0, 1) := by decide +kernel
theorem d_TF_init_115 : decode b_TF_init 115 = .ok (.istore_n 1, 1) := by decide +kernel
theorem d_TF_init_116 : decode b_TF_init 116 = .ok (.iload_n 1, 1) := by decide +kernel
theorem d_TF_init_117 : decode b_TF_init 117 = .ok (.iconst 2, 1) := by decide +kernel
theorem d_TF_init_118 : decode b_TF_init 118 = .ok (.if_icmp .ge 22, 3) := by decide +kernel
theorem d_TF_init_121 : decode b_TF_init 121 = .ok (.aload_n 0, 1) := by decide +kernel
theorem d_TF_init_122 : decode b_TF_init 122 = .ok (.getfield 53, 3) := by decide +kernel
theorem d_TF_init_125 : decode b_TF_init 125 = .ok (.iload_n 1, 1) := by decide +kernel
theorem d_TF_init_126 : decode b_TF_init 126 = .ok (.new 36, 3) := by decide +kernel
theorem d_TF_init_129 : decode b_TF_init 129 = .ok (.dup, 1) := by decide +kernel
theorem d_TF_init_130 : decode b_TF_init 130 = .ok (.invokespecial 38, 3) := by decide +kernel
theorem d_TF_init_133 : decode b_TF_init 133 = .ok (.aastore, 1) := by decide +kernel
theorem d_TF_init_134 : decode b_TF_init 134 = .ok (.iinc 1 1, 3) := by decide +kernel
theorem d_TF_init_137 : decode b_TF_init 137 = .ok (.goto (-21), 3) := by decide +kernel
theorem d_TF_init_140 : decode b_TF_init 140 = .ok (.return_, 1) := by decide +kernel
def fs_TF : List Value := [.null, .int 0, .null, .null, .null, .null, .null, .null, .null, .null, .null, .long 0]
abbrev b_Rd_init : ByteArray := prog_6_method_1_code
theorem d_Rd_init_0 : decode b_Rd_init 0 = .ok (.aload_n 0, 1) := by decide +kernel
theorem d_Rd_init_1 : decode b_Rd_init 1 = .ok (.invokespecial 3, 3) := by decide +kernel
theorem d_Rd_init_4 : decode b_Rd_init 4 = .ok (.aload_n 0, 1) := by decide +kernel
theorem d_Rd_init_5 : decode b_Rd_init 5 = .ok (.new 9, 3) := by decide +kernel
theorem d_Rd_init_8 : decode b_Rd_init 8 = .ok (.dup, 1) := by decide +kernel
theorem d_Rd_init_9 : decode b_Rd_init 9 = .ok (.invokespecial 11, 3) := by decide +kernel
theorem d_Rd_init_12 : decode b_Rd_init 12 = .ok (.putfield 12, 3) := by decide +kernel
theorem d_Rd_init_15 : decode b_Rd_init 15 = .ok (.aload_n 0, 1) := by decide +kernel
theorem d_Rd_init_16 : decode b_Rd_init 16 = .ok (.iconst 0, 1) := by decide +kernel
theorem d_Rd_init_17 : decode b_Rd_init 17 = .ok (.putfield 18, 3) := by decide +kernel
theorem d_Rd_init_20 : decode b_Rd_init 20 = .ok (.aload_n 0, 1) := by decide +kernel
theorem d_Rd_init_21 : decode b_Rd_init 21 = .ok (.iconst 0, 1) := by decide +kernel
theorem d_Rd_init_22 : decode b_Rd_init 22 = .ok (.putfield 22, 3) := by decide +kernel
theorem d_Rd_init_25 : decode b_Rd_init 25 = .ok (.aload_n 0, 1) := by decide +kernel
theorem d_Rd_init_26 : decode b_Rd_init 26 = .ok (.iconst 0, 1) := by decide +kernel
theorem d_Rd_init_27 : decode b_Rd_init 27 = .ok (.putfield 25, 3) := by decide +kernel
theorem d_Rd_init_30 : decode b_Rd_init 30 = .ok (.return_, 1) := by decide +kernel
def fs_Rd : List Value := [.null, .int 0, .int 0, .int 0]
abbrev b_Pl_init : ByteArray := prog_5_method_1_code
theorem d_Pl_init_0 : decode b_Pl_init 0 = .ok (.aload_n 0, 1) := by decide +kernel
theorem d_Pl_init_1 : decode b_Pl_init 1 = .ok (.invokespecial 3, 3) := by decide +kernel
theorem d_Pl_init_4 : decode b_Pl_init 4 = .ok (.aload_n 0, 1) := by decide +kernel
theorem d_Pl_init_5 : decode b_Pl_init 5 = .ok (.bipush 8, 2) := by decide +kernel
theorem d_Pl_init_7 : decode b_Pl_init 7 = .ok (.putfield 9, 3) := by decide +kernel
theorem d_Pl_init_10 : decode b_Pl_init 10 = .ok (.aload_n 0, 1) := by decide +kernel
theorem d_Pl_init_11 : decode b_Pl_init 11 = .ok (.iconst 1, 1) := by decide +kernel
theorem d_Pl_init_12 : decode b_Pl_init 12 = .ok (.putfield 15, 3) := by decide +kernel
theorem d_Pl_init_15 : decode b_Pl_init 15 = .ok (.aload_n 0, 1) := by decide +kernel
theorem d_Pl_init_16 : decode b_Pl_init 16 = .ok (.iconst 0, 1) := by decide +kernel
theorem d_Pl_init_17 : decode b_Pl_init 17 = .ok (.putfield 18, 3) := by decide +kernel
theorem d_Pl_init_20 : decode b_Pl_init 20 = .ok (.aload_n 0, 1) := by decide +kernel
theorem d_Pl_init_21 : decode b_Pl_init 21 = .ok (.iconst 0, 1) := by decide +kernel
theorem d_Pl_init_22 : decode b_Pl_init 22 = .ok (.putfield 21, 3) := by decide +kernel
theorem d_Pl_init_25 : decode b_Pl_init 25 = .ok (.aload_n 0, 1) := by decide +kernel
theorem d_Pl_init_26 : decode b_Pl_init 26 = .ok (.iconst 0, 1) := by decide +kernel
theorem d_Pl_init_27 : decode b_Pl_init 27 = .ok (.putfield 24, 3) := by decide +kernel
theorem d_Pl_init_30 : decode b_Pl_init 30 = .ok (.aload_n 0, 1) := by decide +kernel
theorem d_Pl_init_31 : decode b_Pl_init 31 = .ok (.iconst 5, 1) := by decide +kernel
theorem d_Pl_init_32 : decode b_Pl_init 32 = .ok (.newarray .int, 2) := by decide +kernel
theorem d_Pl_init_34 : decode b_Pl_init 34 = .ok (.putfield 27, 3) := by decide +kernel
theorem d_Pl_init_37 : decode b_Pl_init 37 = .ok (.aload_n 0, 1) := by decide +kernel
theorem d_Pl_init_38 : decode b_Pl_init 38 = .ok (.iconst 5, 1) := by decide +kernel
theorem d_Pl_init_39 : decode b_Pl_init 39 = .ok (.newarray .int, 2) := by decide +kernel
theorem d_Pl_init_41 : decode b_Pl_init 41 = .ok (.putfield 31, 3) := by decide +kernel
theorem d_Pl_init_44 : decode b_Pl_init 44 = .ok (.aload_n 0, 1) := by decide +kernel
theorem d_Pl_init_45 : decode b_Pl_init 45 = .ok (.bipush 7, 2) := by decide +kernel
theorem d_Pl_init_47 : decode b_Pl_init 47 = .ok (.newarray .int, 2) := by decide +kernel
theorem d_Pl_init_49 : decode b_Pl_init 49 = .ok (.putfield 34, 3) := by decide +kernel
theorem d_Pl_init_52 : decode b_Pl_init 52 = .ok (.aload_n 0, 1) := by decide +kernel
theorem d_Pl_init_53 : decode b_Pl_init 53 = .ok (.bipush 7, 2) := by decide +kernel
theorem d_Pl_init_55 : decode b_Pl_init 55 = .ok (.newarray .int, 2) := by decide +kernel
theorem d_Pl_init_57 : decode b_Pl_init 57 = .ok (.putfield 37, 3) := by decide +kernel
theorem d_Pl_init_60 : decode b_Pl_init 60 = .ok (.aload_n 0, 1) := by decide +kernel
theorem d_Pl_init_61 : decode b_Pl_init 61 = .ok (.iconst 5, 1) := by decide +kernel
theorem d_Pl_init_62 : decode b_Pl_init 62 = .ok (.iconst 5, 1) := by decide +kernel
theorem d_Pl_init_63 : decode b_Pl_init 63 = .ok (.multianewarray 40 2, 4) := by decide +kernel
theorem d_Pl_init_67 : decode b_Pl_init 67 = .ok (.putfield 42, 3) := by decide +kernel
theorem d_Pl_init_70 : decode b_Pl_init 70 = .ok (.return_, 1) := by decide +kernel
def fs_Pl : List Value := [.int 0, .int 0, .int 0, .int 0, .int 0, .null, .null, .null, .null, .null]
abbrev b_Fl_init : ByteArray := prog_2_method_1_code
theorem d_Fl_init_0 : decode b_Fl_init 0 = .ok (.aload_n 0, 1) := by decide +kernel
theorem d_Fl_init_1 : decode b_Fl_init 1 = .ok (.invokespecial 3, 3) := by decide +kernel
theorem d_Fl_init_4 : decode b_Fl_init 4 = .ok (.aload_n 0, 1) := by decide +kernel
theorem d_Fl_init_5 : decode b_Fl_init 5 = .ok (.new 9, 3) := by decide +kernel
theorem d_Fl_init_8 : decode b_Fl_init 8 = .ok (.dup, 1) := by decide +kernel
theorem d_Fl_init_9 : decode b_Fl_init 9 = .ok (.invokespecial 11, 3) := by decide +kernel
theorem d_Fl_init_12 : decode b_Fl_init 12 = .ok (.putfield 12, 3) := by decide +kernel
theorem d_Fl_init_15 : decode b_Fl_init 15 = .ok (.aload_n 0, 1) := by decide +kernel
theorem d_Fl_init_16 : decode b_Fl_init 16 = .ok (.iconst 5, 1) := by decide +kernel
theorem d_Fl_init_17 : decode b_Fl_init 17 = .ok (.newarray .boolean, 2) := by decide +kernel
theorem d_Fl_init_19 : decode b_Fl_init 19 = .ok (.putfield 18, 3) := by decide +kernel
theorem d_Fl_init_22 : decode b_Fl_init 22 = .ok (.aload_n 0, 1) := by decide +kernel
theorem d_Fl_init_23 : decode b_Fl_init 23 = .ok (.iconst 5, 1) := by decide +kernel
theorem d_Fl_init_24 : decode b_Fl_init 24 = .ok (.newarray .int, 2) := by decide +kernel
theorem d_Fl_init_26 : decode b_Fl_init 26 = .ok (.putfield 22, 3) := by decide +kernel
theorem d_Fl_init_29 : decode b_Fl_init 29 = .ok (.aload_n 0, 1) := by decide +kernel
theorem d_Fl_init_30 : decode b_Fl_init 30 = .ok (.iconst 5, 1) := by decide +kernel
theorem d_Fl_init_31 : decode b_Fl_init 31 = .ok (.newarray .int, 2) := by decide +kernel
theorem d_Fl_init_33 : decode b_Fl_init 33 = .ok (.putfield 26, 3) := by decide +kernel
theorem d_Fl_init_36 : decode b_Fl_init 36 = .ok (.aload_n 0, 1) := by decide +kernel
theorem d_Fl_init_37 : decode b_Fl_init 37 = .ok (.iconst 5, 1) := by decide +kernel
theorem d_Fl_init_38 : decode b_Fl_init 38 = .ok (.newarray .int, 2) := by decide +kernel
theorem d_Fl_init_40 : decode b_Fl_init 40 = .ok (.putfield 29, 3) := by decide +kernel
theorem d_Fl_init_43 : decode b_Fl_init 43 = .ok (.return_, 1) := by decide +kernel
def fs_Fl : List Value := [.null, .null, .null, .null, .null]
abbrev b_St_init : ByteArray := prog_8_method_1_code
theorem d_St_init_0 : decode b_St_init 0 = .ok (.aload_n 0, 1) := by decide +kernel
theorem d_St_init_1 : decode b_St_init 1 = .ok (.invokespecial 3, 3) := by decide +kernel
theorem d_St_init_4 : decode b_St_init 4 = .ok (.aload_n 0, 1) := by decide +kernel
theorem d_St_init_5 : decode b_St_init 5 = .ok (.iconst 0, 1) := by decide +kernel
theorem d_St_init_6 : decode b_St_init 6 = .ok (.putfield 9, 3) := by decide +kernel
theorem d_St_init_9 : decode b_St_init 9 = .ok (.aload_n 0, 1) := by decide +kernel
theorem d_St_init_10 : decode b_St_init 10 = .ok (.iconst 0, 1) := by decide +kernel
theorem d_St_init_11 : decode b_St_init 11 = .ok (.putfield 15, 3) := by decide +kernel
theorem d_St_init_14 : decode b_St_init 14 = .ok (.aload_n 0, 1) := by decide +kernel
theorem d_St_init_15 : decode b_St_init 15 = .ok (.iconst 5, 1) := by decide +kernel
theorem d_St_init_16 : decode b_St_init 16 = .ok (.anewarray 18, 3) := by decide +kernel
theorem d_St_init_19 : decode b_St_init 19 = .ok (.putfield 20, 3) := by decide +kernel
theorem d_St_init_22 : decode b_St_init 22 = .ok (.iconst 0, 1) := by decide +kernel
theorem d_St_init_23 : decode b_St_init 23 = .ok (.istore_n 1, 1) := by decide +kernel
theorem d_St_init_24 : decode b_St_init 24 = .ok (.iload_n 1, 1) := by decide +kernel
theorem d_St_init_25 : decode b_St_init 25 = .ok (.iconst 5, 1) := by decide +kernel
theorem d_St_init_26 : decode b_St_init 26 = .ok (.if_icmp .ge 22, 3) := by decide +kernel
theorem d_St_init_29 : decode b_St_init 29 = .ok (.aload_n 0, 1) := by decide +kernel
theorem d_St_init_30 : decode b_St_init 30 = .ok (.getfield 20, 3) := by decide +kernel
theorem d_St_init_33 : decode b_St_init 33 = .ok (.iload_n 1, 1) := by decide +kernel
theorem d_St_init_34 : decode b_St_init 34 = .ok (.new 18, 3) := by decide +kernel
theorem d_St_init_37 : decode b_St_init 37 = .ok (.dup, 1) := by decide +kernel
theorem d_St_init_38 : decode b_St_init 38 = .ok (.invokespecial 24, 3) := by decide +kernel
theorem d_St_init_41 : decode b_St_init 41 = .ok (.aastore, 1) := by decide +kernel
theorem d_St_init_42 : decode b_St_init 42 = .ok (.iinc 1 1, 3) := by decide +kernel
theorem d_St_init_45 : decode b_St_init 45 = .ok (.goto (-21), 3) := by decide +kernel
theorem d_St_init_48 : decode b_St_init 48 = .ok (.return_, 1) := by decide +kernel
def fs_St : List Value := [.int 0, .int 0, .null]
abbrev b_Nd_init : ByteArray := prog_4_method_1_code
theorem d_Nd_init_0 : decode b_Nd_init 0 = .ok (.aload_n 0, 1) := by decide +kernel
theorem d_Nd_init_1 : decode b_Nd_init 1 = .ok (.invokespecial 3, 3) := by decide +kernel
theorem d_Nd_init_4 : decode b_Nd_init 4 = .ok (.aload_n 0, 1) := by decide +kernel
theorem d_Nd_init_5 : decode b_Nd_init 5 = .ok (.iconst 0, 1) := by decide +kernel
theorem d_Nd_init_6 : decode b_Nd_init 6 = .ok (.putfield 9, 3) := by decide +kernel
theorem d_Nd_init_9 : decode b_Nd_init 9 = .ok (.aload_n 0, 1) := by decide +kernel
theorem d_Nd_init_10 : decode b_Nd_init 10 = .ok (.iconst 0, 1) := by decide +kernel
theorem d_Nd_init_11 : decode b_Nd_init 11 = .ok (.putfield 15, 3) := by decide +kernel
theorem d_Nd_init_14 : decode b_Nd_init 14 = .ok (.aload_n 0, 1) := by decide +kernel
theorem d_Nd_init_15 : decode b_Nd_init 15 = .ok (.bipush (-9), 2) := by decide +kernel
theorem d_Nd_init_17 : decode b_Nd_init 17 = .ok (.putfield 19, 3) := by decide +kernel
theorem d_Nd_init_20 : decode b_Nd_init 20 = .ok (.aload_n 0, 1) := by decide +kernel
theorem d_Nd_init_21 : decode b_Nd_init 21 = .ok (.iconst 0, 1) := by decide +kernel
theorem d_Nd_init_22 : decode b_Nd_init 22 = .ok (.putfield 22, 3) := by decide +kernel
theorem d_Nd_init_25 : decode b_Nd_init 25 = .ok (.aload_n 0, 1) := by decide +kernel
theorem d_Nd_init_26 : decode b_Nd_init 26 = .ok (.iconst 0, 1) := by decide +kernel
theorem d_Nd_init_27 : decode b_Nd_init 27 = .ok (.putfield 25, 3) := by decide +kernel
theorem d_Nd_init_30 : decode b_Nd_init 30 = .ok (.aload_n 0, 1) := by decide +kernel
theorem d_Nd_init_31 : decode b_Nd_init 31 = .ok (.iconst 0, 1) := by decide +kernel
theorem d_Nd_init_32 : decode b_Nd_init 32 = .ok (.putfield 28, 3) := by decide +kernel
theorem d_Nd_init_35 : decode b_Nd_init 35 = .ok (.aload_n 0, 1) := by decide +kernel
theorem d_Nd_init_36 : decode b_Nd_init 36 = .ok (.iconst 0, 1) := by decide +kernel
theorem d_Nd_init_37 : decode b_Nd_init 37 = .ok (.putfield 31, 3) := by decide +kernel
theorem d_Nd_init_40 : decode b_Nd_init 40 = .ok (.aload_n 0, 1) := by decide +kernel
theorem d_Nd_init_41 : decode b_Nd_init 41 = .ok (.iconst 4, 1) := by decide +kernel
theorem d_Nd_init_42 : decode b_Nd_init 42 = .ok (.newarray .int, 2) := by decide +kernel
theorem d_Nd_init_44 : decode b_Nd_init 44 = .ok (.putfield 34, 3) := by decide +kernel
theorem d_Nd_init_47 : decode b_Nd_init 47 = .ok (.aload_n 0, 1) := by decide +kernel
theorem d_Nd_init_48 : decode b_Nd_init 48 = .ok (.iconst 4, 1) := by decide +kernel
theorem d_Nd_init_49 : decode b_Nd_init 49 = .ok (.newarray .int, 2) := by decide +kernel
theorem d_Nd_init_51 : decode b_Nd_init 51 = .ok (.putfield 38, 3) := by decide +kernel
theorem d_Nd_init_54 : decode b_Nd_init 54 = .ok (.aload_n 0, 1) := by decide +kernel
theorem d_Nd_init_55 : decode b_Nd_init 55 = .ok (.iconst 4, 1) := by decide +kernel
theorem d_Nd_init_56 : decode b_Nd_init 56 = .ok (.newarray .int, 2) := by decide +kernel
theorem d_Nd_init_58 : decode b_Nd_init 58 = .ok (.putfield 41, 3) := by decide +kernel
theorem d_Nd_init_61 : decode b_Nd_init 61 = .ok (.return_, 1) := by decide +kernel
def fs_Nd : List Value := [.int 0, .int 0, .int 0, .int 0, .int 0, .int 0, .int 0, .null, .null, .null]
abbrev b_Jr_init : ByteArray := prog_3_method_1_code
theorem d_Jr_init_0 : decode b_Jr_init 0 = .ok (.aload_n 0, 1) := by decide +kernel
theorem d_Jr_init_1 : decode b_Jr_init 1 = .ok (.invokespecial 3, 3) := by decide +kernel
theorem d_Jr_init_4 : decode b_Jr_init 4 = .ok (.aload_n 0, 1) := by decide +kernel
theorem d_Jr_init_5 : decode b_Jr_init 5 = .ok (.bipush 14, 2) := by decide +kernel
theorem d_Jr_init_7 : decode b_Jr_init 7 = .ok (.anewarray 9, 3) := by decide +kernel
theorem d_Jr_init_10 : decode b_Jr_init 10 = .ok (.putfield 11, 3) := by decide +kernel
theorem d_Jr_init_13 : decode b_Jr_init 13 = .ok (.aload_n 0, 1) := by decide +kernel
theorem d_Jr_init_14 : decode b_Jr_init 14 = .ok (.iconst 0, 1) := by decide +kernel
theorem d_Jr_init_15 : decode b_Jr_init 15 = .ok (.putfield 17, 3) := by decide +kernel
theorem d_Jr_init_18 : decode b_Jr_init 18 = .ok (.aload_n 0, 1) := by decide +kernel
theorem d_Jr_init_19 : decode b_Jr_init 19 = .ok (.iconst 0, 1) := by decide +kernel
theorem d_Jr_init_20 : decode b_Jr_init 20 = .ok (.putfield 21, 3) := by decide +kernel
theorem d_Jr_init_23 : decode b_Jr_init 23 = .ok (.iconst 0, 1) := by decide +kernel
theorem d_Jr_init_24 : decode b_Jr_init 24 = .ok (.istore_n 1, 1) := by decide +kernel
theorem d_Jr_init_25 : decode b_Jr_init 25 = .ok (.iload_n 1, 1) := by decide +kernel
theorem d_Jr_init_26 : decode b_Jr_init 26 = .ok (.bipush 14, 2) := by decide +kernel
theorem d_Jr_init_28 : decode b_Jr_init 28 = .ok (.if_icmp .ge 22, 3) := by decide +kernel
theorem d_Jr_init_31 : decode b_Jr_init 31 = .ok (.aload_n 0, 1) := by decide +kernel
theorem d_Jr_init_32 : decode b_Jr_init 32 = .ok (.getfield 11, 3) := by decide +kernel
theorem d_Jr_init_35 : decode b_Jr_init 35 = .ok (.iload_n 1, 1) := by decide +kernel
theorem d_Jr_init_36 : decode b_Jr_init 36 = .ok (.new 9, 3) := by decide +kernel
theorem d_Jr_init_39 : decode b_Jr_init 39 = .ok (.dup, 1) := by decide +kernel
theorem d_Jr_init_40 : decode b_Jr_init 40 = .ok (.invokespecial 24, 3) := by decide +kernel
theorem d_Jr_init_43 : decode b_Jr_init 43 = .ok (.aastore, 1) := by decide +kernel
theorem d_Jr_init_44 : decode b_Jr_init 44 = .ok (.iinc 1 1, 3) := by decide +kernel
theorem d_Jr_init_47 : decode b_Jr_init 47 = .ok (.goto (-22), 3) := by decide +kernel
theorem d_Jr_init_50 : decode b_Jr_init 50 = .ok (.return_, 1) := by decide +kernel
def fs_Jr : List Value := [.null, .int 0, .int 0]
abbrev b_Sg_init : ByteArray := prog_7_method_1_code
theorem d_Sg_init_0 : decode b_Sg_init 0 = .ok (.aload_n 0, 1) := by decide +kernel
theorem d_Sg_init_1 : decode b_Sg_init 1 = .ok (.invokespecial 3, 3) := by decide +kernel
theorem d_Sg_init_4 : decode b_Sg_init 4 = .ok (.aload_n 0, 1) := by decide +kernel
theorem d_Sg_init_5 : decode b_Sg_init 5 = .ok (.bipush 6, 2) := by decide +kernel
theorem d_Sg_init_7 : decode b_Sg_init 7 = .ok (.newarray .int, 2) := by decide +kernel
theorem d_Sg_init_9 : decode b_Sg_init 9 = .ok (.putfield 9, 3) := by decide +kernel
theorem d_Sg_init_12 : decode b_Sg_init 12 = .ok (.aload_n 0, 1) := by decide +kernel
theorem d_Sg_init_13 : decode b_Sg_init 13 = .ok (.bipush 6, 2) := by decide +kernel
theorem d_Sg_init_15 : decode b_Sg_init 15 = .ok (.newarray .int, 2) := by decide +kernel
theorem d_Sg_init_17 : decode b_Sg_init 17 = .ok (.putfield 15, 3) := by decide +kernel
theorem d_Sg_init_20 : decode b_Sg_init 20 = .ok (.aload_n 0, 1) := by decide +kernel
theorem d_Sg_init_21 : decode b_Sg_init 21 = .ok (.bipush 6, 2) := by decide +kernel
theorem d_Sg_init_23 : decode b_Sg_init 23 = .ok (.newarray .int, 2) := by decide +kernel
theorem d_Sg_init_25 : decode b_Sg_init 25 = .ok (.putfield 18, 3) := by decide +kernel
theorem d_Sg_init_28 : decode b_Sg_init 28 = .ok (.aload_n 0, 1) := by decide +kernel
theorem d_Sg_init_29 : decode b_Sg_init 29 = .ok (.iconst 0, 1) := by decide +kernel
theorem d_Sg_init_30 : decode b_Sg_init 30 = .ok (.putfield 21, 3) := by decide +kernel
theorem d_Sg_init_33 : decode b_Sg_init 33 = .ok (.return_, 1) := by decide +kernel
def fs_Sg : List Value := [.null, .null, .null, .int 0]
abbrev b_M_init : ByteArray := prog_10_method_1_code
theorem d_M_init_0 : decode b_M_init 0 = .ok (.aload_n 0, 1) := by decide +kernel
theorem d_M_init_1 : decode b_M_init 1 = .ok (.invokespecial 1, 3) := by decide +kernel
theorem d_M_init_4 : decode b_M_init 4 = .ok (.aload_n 0, 1) := by decide +kernel
theorem d_M_init_5 : decode b_M_init 5 = .ok (.bipush 60, 2) := by decide +kernel
theorem d_M_init_7 : decode b_M_init 7 = .ok (.newarray .int, 2) := by decide +kernel
theorem d_M_init_9 : decode b_M_init 9 = .ok (.putfield 7, 3) := by decide +kernel
theorem d_M_init_12 : decode b_M_init 12 = .ok (.aload_n 0, 1) := by decide +kernel
theorem d_M_init_13 : decode b_M_init 13 = .ok (.iconst 5, 1) := by decide +kernel
theorem d_M_init_14 : decode b_M_init 14 = .ok (.newarray .int, 2) := by decide +kernel
theorem d_M_init_16 : decode b_M_init 16 = .ok (.putfield 13, 3) := by decide +kernel
theorem d_M_init_19 : decode b_M_init 19 = .ok (.aload_n 0, 1) := by decide +kernel
theorem d_M_init_20 : decode b_M_init 20 = .ok (.bipush 7, 2) := by decide +kernel
theorem d_M_init_22 : decode b_M_init 22 = .ok (.newarray .int, 2) := by decide +kernel
theorem d_M_init_24 : decode b_M_init 24 = .ok (.putfield 16, 3) := by decide +kernel
theorem d_M_init_27 : decode b_M_init 27 = .ok (.aload_n 0, 1) := by decide +kernel
theorem d_M_init_28 : decode b_M_init 28 = .ok (.bipush 7, 2) := by decide +kernel
theorem d_M_init_30 : decode b_M_init 30 = .ok (.newarray .int, 2) := by decide +kernel
theorem d_M_init_32 : decode b_M_init 32 = .ok (.putfield 19, 3) := by decide +kernel
theorem d_M_init_35 : decode b_M_init 35 = .ok (.aload_n 0, 1) := by decide +kernel
theorem d_M_init_36 : decode b_M_init 36 = .ok (.bipush 103, 2) := by decide +kernel
theorem d_M_init_38 : decode b_M_init 38 = .ok (.newarray .int, 2) := by decide +kernel
theorem d_M_init_40 : decode b_M_init 40 = .ok (.putfield 22, 3) := by decide +kernel
theorem d_M_init_43 : decode b_M_init 43 = .ok (.aload_n 0, 1) := by decide +kernel
theorem d_M_init_44 : decode b_M_init 44 = .ok (.bipush 103, 2) := by decide +kernel
theorem d_M_init_46 : decode b_M_init 46 = .ok (.newarray .int, 2) := by decide +kernel
theorem d_M_init_48 : decode b_M_init 48 = .ok (.putfield 25, 3) := by decide +kernel
theorem d_M_init_51 : decode b_M_init 51 = .ok (.aload_n 0, 1) := by decide +kernel
theorem d_M_init_52 : decode b_M_init 52 = .ok (.sipush 1442, 3) := by decide +kernel
theorem d_M_init_55 : decode b_M_init 55 = .ok (.newarray .int, 2) := by decide +kernel
theorem d_M_init_57 : decode b_M_init 57 = .ok (.putfield 28, 3) := by decide +kernel
theorem d_M_init_60 : decode b_M_init 60 = .ok (.aload_n 0, 1) := by decide +kernel
theorem d_M_init_61 : decode b_M_init 61 = .ok (.sipush 206, 3) := by decide +kernel
theorem d_M_init_64 : decode b_M_init 64 = .ok (.newarray .int, 2) := by decide +kernel
theorem d_M_init_66 : decode b_M_init 66 = .ok (.putfield 31, 3) := by decide +kernel
theorem d_M_init_69 : decode b_M_init 69 = .ok (.aload_n 0, 1) := by decide +kernel
theorem d_M_init_70 : decode b_M_init 70 = .ok (.iconst 2, 1) := by decide +kernel
theorem d_M_init_71 : decode b_M_init 71 = .ok (.newarray .boolean, 2) := by decide +kernel
theorem d_M_init_73 : decode b_M_init 73 = .ok (.putfield 34, 3) := by decide +kernel
theorem d_M_init_76 : decode b_M_init 76 = .ok (.aload_n 0, 1) := by decide +kernel
theorem d_M_init_77 : decode b_M_init 77 = .ok (.bipush 6, 2) := by decide +kernel
theorem d_M_init_79 : decode b_M_init 79 = .ok (.newarray .int, 2) := by decide +kernel
theorem d_M_init_81 : decode b_M_init 81 = .ok (.putfield 38, 3) := by decide +kernel
theorem d_M_init_84 : decode b_M_init 84 = .ok (.aload_n 0, 1) := by decide +kernel
theorem d_M_init_85 : decode b_M_init 85 = .ok (.bipush 6, 2) := by decide +kernel
theorem d_M_init_87 : decode b_M_init 87 = .ok (.newarray .int, 2) := by decide +kernel
theorem d_M_init_89 : decode b_M_init 89 = .ok (.putfield 41, 3) := by decide +kernel
theorem d_M_init_92 : decode b_M_init 92 = .ok (.aload_n 0, 1) := by decide +kernel
theorem d_M_init_93 : decode b_M_init 93 = .ok (.bipush 6, 2) := by decide +kernel
theorem d_M_init_95 : decode b_M_init 95 = .ok (.newarray .int, 2) := by decide +kernel
theorem d_M_init_97 : decode b_M_init 97 = .ok (.putfield 44, 3) := by decide +kernel
theorem d_M_init_100 : decode b_M_init 100 = .ok (.aload_n 0, 1) := by decide +kernel
theorem d_M_init_101 : decode b_M_init 101 = .ok (.iconst 5, 1) := by decide +kernel
theorem d_M_init_102 : decode b_M_init 102 = .ok (.newarray .boolean, 2) := by decide +kernel
theorem d_M_init_104 : decode b_M_init 104 = .ok (.putfield 47, 3) := by decide +kernel
theorem d_M_init_107 : decode b_M_init 107 = .ok (.aload_n 0, 1) := by decide +kernel
theorem d_M_init_108 : decode b_M_init 108 = .ok (.iconst 5, 1) := by decide +kernel
theorem d_M_init_109 : decode b_M_init 109 = .ok (.newarray .int, 2) := by decide +kernel
theorem d_M_init_111 : decode b_M_init 111 = .ok (.putfield 50, 3) := by decide +kernel
theorem d_M_init_114 : decode b_M_init 114 = .ok (.aload_n 0, 1) := by decide +kernel
theorem d_M_init_115 : decode b_M_init 115 = .ok (.iconst 5, 1) := by decide +kernel
theorem d_M_init_116 : decode b_M_init 116 = .ok (.newarray .int, 2) := by decide +kernel
theorem d_M_init_118 : decode b_M_init 118 = .ok (.putfield 53, 3) := by decide +kernel
theorem d_M_init_121 : decode b_M_init 121 = .ok (.aload_n 0, 1) := by decide +kernel
theorem d_M_init_122 : decode b_M_init 122 = .ok (.iconst 5, 1) := by decide +kernel
theorem d_M_init_123 : decode b_M_init 123 = .ok (.newarray .int, 2) := by decide +kernel
theorem d_M_init_125 : decode b_M_init 125 = .ok (.putfield 56, 3) := by decide +kernel
theorem d_M_init_128 : decode b_M_init 128 = .ok (.aload_n 0, 1) := by decide +kernel
theorem d_M_init_129 : decode b_M_init 129 = .ok (.iconst 5, 1) := by decide +kernel
theorem d_M_init_130 : decode b_M_init 130 = .ok (.newarray .boolean, 2) := by decide +kernel
theorem d_M_init_132 : decode b_M_init 132 = .ok (.putfield 59, 3) := by decide +kernel
theorem d_M_init_135 : decode b_M_init 135 = .ok (.aload_n 0, 1) := by decide +kernel
theorem d_M_init_136 : decode b_M_init 136 = .ok (.bipush 32, 2) := by decide +kernel
theorem d_M_init_138 : decode b_M_init 138 = .ok (.newarray .int, 2) := by decide +kernel
theorem d_M_init_140 : decode b_M_init 140 = .ok (.putfield 62, 3) := by decide +kernel
theorem d_M_init_143 : decode b_M_init 143 = .ok (.aload_n 0, 1) := by decide +kernel
theorem d_M_init_144 : decode b_M_init 144 = .ok (.iconst 5, 1) := by decide +kernel
theorem d_M_init_145 : decode b_M_init 145 = .ok (.newarray .int, 2) := by decide +kernel
theorem d_M_init_147 : decode b_M_init 147 = .ok (.putfield 65, 3) := by decide +kernel
theorem d_M_init_150 : decode b_M_init 150 = .ok (.aload_n 0, 1) := by decide +kernel
theorem d_M_init_151 : decode b_M_init 151 = .ok (.iconst 5, 1) := by decide +kernel
theorem d_M_init_152 : decode b_M_init 152 = .ok (.newarray .int, 2) := by decide +kernel
theorem d_M_init_154 : decode b_M_init 154 = .ok (.putfield 68, 3) := by decide +kernel
theorem d_M_init_157 : decode b_M_init 157 = .ok (.aload_n 0, 1) := by decide +kernel
theorem d_M_init_158 : decode b_M_init 158 = .ok (.bipush 7, 2) := by decide +kernel
theorem d_M_init_160 : decode b_M_init 160 = .ok (.newarray .int, 2) := by decide +kernel
theorem d_M_init_162 : decode b_M_init 162 = .ok (.putfield 71, 3) := by decide +kernel
theorem d_M_init_165 : decode b_M_init 165 = .ok (.aload_n 0, 1) := by decide +kernel
theorem d_M_init_166 : decode b_M_init 166 = .ok (.bipush 7, 2) := by decide +kernel
theorem d_M_init_168 : decode b_M_init 168 = .ok (.newarray .int, 2) := by decide +kernel
theorem d_M_init_170 : decode b_M_init 170 = .ok (.putfield 74, 3) := by decide +kernel
theorem d_M_init_173 : decode b_M_init 173 = .ok (.aload_n 0, 1) := by decide +kernel
theorem d_M_init_174 : decode b_M_init 174 = .ok (.bipush 8, 2) := by decide +kernel
theorem d_M_init_176 : decode b_M_init 176 = .ok (.putfield 77, 3) := by decide +kernel
theorem d_M_init_179 : decode b_M_init 179 = .ok (.aload_n 0, 1) := by decide +kernel
theorem d_M_init_180 : decode b_M_init 180 = .ok (.iconst 1, 1) := by decide +kernel
theorem d_M_init_181 : decode b_M_init 181 = .ok (.putfield 81, 3) := by decide +kernel
theorem d_M_init_184 : decode b_M_init 184 = .ok (.return_, 1) := by decide +kernel
def fs_M : List Value := [.null, .int 0, .int 0, .int 0, .int 0, .int 0, .null, .int 0, .null, .null, .null, .null, .null, .int 0, .int 0, .null, .null, .null, .null, .null, .int 0, .long 0, .null, .null, .null, .null, .null, .null, .int 0, .int 0, .int 0, .int 0, .null, .null, .int 0, .null, .null, .int 0, .int 0]
