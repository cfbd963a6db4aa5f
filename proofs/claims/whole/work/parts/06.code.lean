abbrev b_TF_write : ByteArray := prog_1_method_2_code
abbrev y_TF_write : MethodName := ⟨"TimeFlood", "write", "(I)I"⟩
theorem m_TF_write : MWV y_TF_write b_TF_write 2 (Option.some FieldType.int) 1 := ⟨wd_277, wd_278, wd_1, wd_279, by decide, by decide, by decide +kernel⟩
theorem d_TF_write_0 : decode b_TF_write 0 = .ok (.iload_n 1, 1) := by decide +kernel
theorem d_TF_write_1 : decode b_TF_write 1 = .ok (.ifCond .lt 10, 3) := by decide +kernel
theorem d_TF_write_4 : decode b_TF_write 4 = .ok (.iload_n 1, 1) := by decide +kernel
theorem d_TF_write_5 : decode b_TF_write 5 = .ok (.sipush 255, 3) := by decide +kernel
theorem d_TF_write_8 : decode b_TF_write 8 = .ok (.if_icmp .le 6, 3) := by decide +kernel
theorem d_TF_write_11 : decode b_TF_write 11 = .ok (.bipush (-2), 2) := by decide +kernel
theorem d_TF_write_13 : decode b_TF_write 13 = .ok (.ireturn, 1) := by decide +kernel
theorem d_TF_write_14 : decode b_TF_write 14 = .ok (.aload_n 0, 1) := by decide +kernel
theorem d_TF_write_15 : decode b_TF_write 15 = .ok (.getfield 13, 3) := by decide +kernel
theorem d_TF_write_18 : decode b_TF_write 18 = .ok (.bipush 60, 2) := by decide +kernel
theorem d_TF_write_20 : decode b_TF_write 20 = .ok (.if_icmp .lt 6, 3) := by decide +kernel
theorem d_TF_write_23 : decode b_TF_write 23 = .ok (.bipush (-4), 2) := by decide +kernel
theorem d_TF_write_25 : decode b_TF_write 25 = .ok (.ireturn, 1) := by decide +kernel
theorem d_TF_write_26 : decode b_TF_write 26 = .ok (.aload_n 0, 1) := by decide +kernel
theorem d_TF_write_27 : decode b_TF_write 27 = .ok (.getfield 9, 3) := by decide +kernel
theorem d_TF_write_30 : decode b_TF_write 30 = .ok (.aload_n 0, 1) := by decide +kernel
theorem d_TF_write_31 : decode b_TF_write 31 = .ok (.getfield 13, 3) := by decide +kernel
theorem d_TF_write_34 : decode b_TF_write 34 = .ok (.iload_n 1, 1) := by decide +kernel
theorem d_TF_write_35 : decode b_TF_write 35 = .ok (.i2c, 1) := by decide +kernel
theorem d_TF_write_36 : decode b_TF_write 36 = .ok (.castore, 1) := by decide +kernel
theorem d_TF_write_37 : decode b_TF_write 37 = .ok (.aload_n 0, 1) := by decide +kernel
theorem d_TF_write_38 : decode b_TF_write 38 = .ok (.dup, 1) := by decide +kernel
theorem d_TF_write_39 : decode b_TF_write 39 = .ok (.getfield 13, 3) := by decide +kernel
theorem d_TF_write_42 : decode b_TF_write 42 = .ok (.iconst 1, 1) := by decide +kernel
theorem d_TF_write_43 : decode b_TF_write 43 = .ok (.iadd, 1) := by decide +kernel
theorem d_TF_write_44 : decode b_TF_write 44 = .ok (.putfield 13, 3) := by decide +kernel
theorem d_TF_write_47 : decode b_TF_write 47 = .ok (.aload_n 0, 1) := by decide +kernel
theorem d_TF_write_48 : decode b_TF_write 48 = .ok (.getfield 13, 3) := by decide +kernel
theorem d_TF_write_51 : decode b_TF_write 51 = .ok (.ireturn, 1) := by decide +kernel
abbrev b_TF_wipe : ByteArray := prog_1_method_3_code
abbrev y_TF_wipe : MethodName := ⟨"TimeFlood", "wipe", "()I"⟩
theorem m_TF_wipe : MWV y_TF_wipe b_TF_wipe 2 (Option.some FieldType.int) 0 := ⟨wd_281, wd_282, wd_1, wd_283, by decide, by decide, by decide +kernel⟩
theorem d_TF_wipe_0 : decode b_TF_wipe 0 = .ok (.aload_n 0, 1) := by decide +kernel
theorem d_TF_wipe_1 : decode b_TF_wipe 1 = .ok (.getfield 13, 3) := by decide +kernel
theorem d_TF_wipe_4 : decode b_TF_wipe 4 = .ok (.istore_n 1, 1) := by decide +kernel
theorem d_TF_wipe_5 : decode b_TF_wipe 5 = .ok (.aload_n 0, 1) := by decide +kernel
theorem d_TF_wipe_6 : decode b_TF_wipe 6 = .ok (.iconst 0, 1) := by decide +kernel
theorem d_TF_wipe_7 : decode b_TF_wipe 7 = .ok (.putfield 13, 3) := by decide +kernel
theorem d_TF_wipe_10 : decode b_TF_wipe 10 = .ok (.iload_n 1, 1) := by decide +kernel
theorem d_TF_wipe_11 : decode b_TF_wipe 11 = .ok (.ireturn, 1) := by decide +kernel
abbrev b_Pl_clear : ByteArray := prog_5_method_2_code
abbrev y_Pl_clear : MethodName := ⟨"TimeFlood$Plan", "clear", "()V"⟩
theorem m_Pl_clear : MWV y_Pl_clear b_Pl_clear 3 none 0 := ⟨wd_293, wd_294, wd_3, wd_295, by decide, by decide, by decide +kernel⟩
theorem d_Pl_clear_0 : decode b_Pl_clear 0 = .ok (.aload_n 0, 1) := by decide +kernel
theorem d_Pl_clear_1 : decode b_Pl_clear 1 = .ok (.iconst 0, 1) := by decide +kernel
theorem d_Pl_clear_2 : decode b_Pl_clear 2 = .ok (.putfield 21, 3) := by decide +kernel
theorem d_Pl_clear_5 : decode b_Pl_clear 5 = .ok (.aload_n 0, 1) := by decide +kernel
theorem d_Pl_clear_6 : decode b_Pl_clear 6 = .ok (.iconst 0, 1) := by decide +kernel
theorem d_Pl_clear_7 : decode b_Pl_clear 7 = .ok (.putfield 24, 3) := by decide +kernel
theorem d_Pl_clear_10 : decode b_Pl_clear 10 = .ok (.iconst 0, 1) := by decide +kernel
theorem d_Pl_clear_11 : decode b_Pl_clear 11 = .ok (.istore_n 1, 1) := by decide +kernel
theorem d_Pl_clear_12 : decode b_Pl_clear 12 = .ok (.iload_n 1, 1) := by decide +kernel
theorem d_Pl_clear_13 : decode b_Pl_clear 13 = .ok (.iconst 5, 1) := by decide +kernel
theorem d_Pl_clear_14 : decode b_Pl_clear 14 = .ok (.if_icmp .ge 32, 3) := by decide +kernel
theorem d_Pl_clear_17 : decode b_Pl_clear 17 = .ok (.iconst 0, 1) := by decide +kernel
theorem d_Pl_clear_18 : decode b_Pl_clear 18 = .ok (.istore_n 2, 1) := by decide +kernel
theorem d_Pl_clear_19 : decode b_Pl_clear 19 = .ok (.iload_n 2, 1) := by decide +kernel
theorem d_Pl_clear_20 : decode b_Pl_clear 20 = .ok (.iconst 5, 1) := by decide +kernel
theorem d_Pl_clear_21 : decode b_Pl_clear 21 = .ok (.if_icmp .ge 19, 3) := by decide +kernel
theorem d_Pl_clear_24 : decode b_Pl_clear 24 = .ok (.aload_n 0, 1) := by decide +kernel
theorem d_Pl_clear_25 : decode b_Pl_clear 25 = .ok (.getfield 42, 3) := by decide +kernel
theorem d_Pl_clear_28 : decode b_Pl_clear 28 = .ok (.iload_n 1, 1) := by decide +kernel
theorem d_Pl_clear_29 : decode b_Pl_clear 29 = .ok (.aaload, 1) := by decide +kernel
theorem d_Pl_clear_30 : decode b_Pl_clear 30 = .ok (.iload_n 2, 1) := by decide +kernel
theorem d_Pl_clear_31 : decode b_Pl_clear 31 = .ok (.bipush (-9), 2) := by decide +kernel
theorem d_Pl_clear_33 : decode b_Pl_clear 33 = .ok (.iastore, 1) := by decide +kernel
theorem d_Pl_clear_34 : decode b_Pl_clear 34 = .ok (.iinc 2 1, 3) := by decide +kernel
theorem d_Pl_clear_37 : decode b_Pl_clear 37 = .ok (.goto (-18), 3) := by decide +kernel
theorem d_Pl_clear_40 : decode b_Pl_clear 40 = .ok (.iinc 1 1, 3) := by decide +kernel
theorem d_Pl_clear_43 : decode b_Pl_clear 43 = .ok (.goto (-31), 3) := by decide +kernel
theorem d_Pl_clear_46 : decode b_Pl_clear 46 = .ok (.return_, 1) := by decide +kernel
abbrev b_Pl_canLinkAny : ByteArray := prog_5_method_8_code
abbrev y_Pl_canLinkAny : MethodName := ⟨"TimeFlood$Plan", "canLinkAny", "()Z"⟩
theorem m_Pl_canLinkAny : MWV y_Pl_canLinkAny b_Pl_canLinkAny 1 (Option.some FieldType.boolean) 0 := ⟨wd_305, wd_306, wd_3, wd_307, by decide, by decide, by decide +kernel⟩
theorem d_Pl_canLinkAny_0 : decode b_Pl_canLinkAny 0 = .ok (.aload_n 0, 1) := by decide +kernel
theorem d_Pl_canLinkAny_1 : decode b_Pl_canLinkAny 1 = .ok (.getfield 24, 3) := by decide +kernel
theorem d_Pl_canLinkAny_4 : decode b_Pl_canLinkAny 4 = .ok (.bipush 7, 2) := by decide +kernel
theorem d_Pl_canLinkAny_6 : decode b_Pl_canLinkAny 6 = .ok (.if_icmp .ge 27, 3) := by decide +kernel
theorem d_Pl_canLinkAny_9 : decode b_Pl_canLinkAny 9 = .ok (.aload_n 0, 1) := by decide +kernel
theorem d_Pl_canLinkAny_10 : decode b_Pl_canLinkAny 10 = .ok (.getfield 24, 3) := by decide +kernel
theorem d_Pl_canLinkAny_13 : decode b_Pl_canLinkAny 13 = .ok (.aload_n 0, 1) := by decide +kernel
theorem d_Pl_canLinkAny_14 : decode b_Pl_canLinkAny 14 = .ok (.getfield 21, 3) := by decide +kernel
theorem d_Pl_canLinkAny_17 : decode b_Pl_canLinkAny 17 = .ok (.aload_n 0, 1) := by decide +kernel
theorem d_Pl_canLinkAny_18 : decode b_Pl_canLinkAny 18 = .ok (.getfield 21, 3) := by decide +kernel
theorem d_Pl_canLinkAny_21 : decode b_Pl_canLinkAny 21 = .ok (.iconst 1, 1) := by decide +kernel
theorem d_Pl_canLinkAny_22 : decode b_Pl_canLinkAny 22 = .ok (.isub, 1) := by decide +kernel
theorem d_Pl_canLinkAny_23 : decode b_Pl_canLinkAny 23 = .ok (.imul, 1) := by decide +kernel
theorem d_Pl_canLinkAny_24 : decode b_Pl_canLinkAny 24 = .ok (.iconst 2, 1) := by decide +kernel
theorem d_Pl_canLinkAny_25 : decode b_Pl_canLinkAny 25 = .ok (.idiv, 1) := by decide +kernel
theorem d_Pl_canLinkAny_26 : decode b_Pl_canLinkAny 26 = .ok (.if_icmp .ge 7, 3) := by decide +kernel
theorem d_Pl_canLinkAny_29 : decode b_Pl_canLinkAny 29 = .ok (.iconst 1, 1) := by decide +kernel
theorem d_Pl_canLinkAny_30 : decode b_Pl_canLinkAny 30 = .ok (.goto 4, 3) := by decide +kernel
theorem d_Pl_canLinkAny_33 : decode b_Pl_canLinkAny 33 = .ok (.iconst 0, 1) := by decide +kernel
theorem d_Pl_canLinkAny_34 : decode b_Pl_canLinkAny 34 = .ok (.ireturn, 1) := by decide +kernel
abbrev b_Rd_takesItem : ByteArray := prog_6_method_4_code
abbrev y_Rd_takesItem : MethodName := ⟨"TimeFlood$Reader", "takesItem", "(C)Z"⟩
theorem m_Rd_takesItem : MWV y_Rd_takesItem b_Rd_takesItem 2 (Option.some FieldType.boolean) 1 := ⟨wd_302, wp_1, wd_2, wd_303, by decide, by decide, by decide +kernel⟩
theorem d_Rd_takesItem_0 : decode b_Rd_takesItem 0 = .ok (.iload_n 1, 1) := by decide +kernel
theorem d_Rd_takesItem_1 : decode b_Rd_takesItem 1 = .ok (.bipush 110, 2) := by decide +kernel
theorem d_Rd_takesItem_3 : decode b_Rd_takesItem 3 = .ok (.if_icmp .ne 26, 3) := by decide +kernel
theorem d_Rd_takesItem_6 : decode b_Rd_takesItem 6 = .ok (.aload_n 0, 1) := by decide +kernel
theorem d_Rd_takesItem_7 : decode b_Rd_takesItem 7 = .ok (.bipush 6, 2) := by decide +kernel
theorem d_Rd_takesItem_9 : decode b_Rd_takesItem 9 = .ok (.putfield 18, 3) := by decide +kernel
theorem d_Rd_takesItem_12 : decode b_Rd_takesItem 12 = .ok (.aload_n 0, 1) := by decide +kernel
theorem d_Rd_takesItem_13 : decode b_Rd_takesItem 13 = .ok (.getfield 12, 3) := by decide +kernel
theorem d_Rd_takesItem_16 : decode b_Rd_takesItem 16 = .ok (.getfield 45, 3) := by decide +kernel
theorem d_Rd_takesItem_19 : decode b_Rd_takesItem 19 = .ok (.iconst 5, 1) := by decide +kernel
theorem d_Rd_takesItem_20 : decode b_Rd_takesItem 20 = .ok (.if_icmp .ge 7, 3) := by decide +kernel
theorem d_Rd_takesItem_23 : decode b_Rd_takesItem 23 = .ok (.iconst 1, 1) := by decide +kernel
theorem d_Rd_takesItem_24 : decode b_Rd_takesItem 24 = .ok (.goto 4, 3) := by decide +kernel
theorem d_Rd_takesItem_27 : decode b_Rd_takesItem 27 = .ok (.iconst 0, 1) := by decide +kernel
theorem d_Rd_takesItem_28 : decode b_Rd_takesItem 28 = .ok (.ireturn, 1) := by decide +kernel
theorem d_Rd_takesItem_29 : decode b_Rd_takesItem 29 = .ok (.aload_n 0, 1) := by decide +kernel
theorem d_Rd_takesItem_30 : decode b_Rd_takesItem 30 = .ok (.bipush 9, 2) := by decide +kernel
theorem d_Rd_takesItem_32 : decode b_Rd_takesItem 32 = .ok (.putfield 18, 3) := by decide +kernel
theorem d_Rd_takesItem_35 : decode b_Rd_takesItem 35 = .ok (.iload_n 1, 1) := by decide +kernel
theorem d_Rd_takesItem_36 : decode b_Rd_takesItem 36 = .ok (.bipush 107, 2) := by decide +kernel
theorem d_Rd_takesItem_38 : decode b_Rd_takesItem 38 = .ok (.if_icmp .ne 17, 3) := by decide +kernel
theorem d_Rd_takesItem_41 : decode b_Rd_takesItem 41 = .ok (.aload_n 0, 1) := by decide +kernel
theorem d_Rd_takesItem_42 : decode b_Rd_takesItem 42 = .ok (.getfield 12, 3) := by decide +kernel
theorem d_Rd_takesItem_45 : decode b_Rd_takesItem 45 = .ok (.invokevirtual 48, 3) := by decide +kernel
theorem d_Rd_takesItem_48 : decode b_Rd_takesItem 48 = .ok (.ifCond .eq 7, 3) := by decide +kernel
theorem d_Rd_takesItem_51 : decode b_Rd_takesItem 51 = .ok (.iconst 1, 1) := by decide +kernel
theorem d_Rd_takesItem_52 : decode b_Rd_takesItem 52 = .ok (.goto 4, 3) := by decide +kernel
theorem d_Rd_takesItem_55 : decode b_Rd_takesItem 55 = .ok (.iconst 0, 1) := by decide +kernel
theorem d_Rd_takesItem_56 : decode b_Rd_takesItem 56 = .ok (.ireturn, 1) := by decide +kernel
abbrev b_Rd_takesOfHead : ByteArray := prog_6_method_5_code
abbrev y_Rd_takesOfHead : MethodName := ⟨"TimeFlood$Reader", "takesOfHead", "(I)Z"⟩
theorem m_Rd_takesOfHead : MWV y_Rd_takesOfHead b_Rd_takesOfHead 2 (Option.some FieldType.boolean) 1 := ⟨wd_310, wp_2, wd_2, wd_311, by decide, by decide, by decide +kernel⟩
theorem d_Rd_takesOfHead_0 : decode b_Rd_takesOfHead 0 = .ok (.aload_n 0, 1) := by decide +kernel
theorem d_Rd_takesOfHead_1 : decode b_Rd_takesOfHead 1 = .ok (.getfield 18, 3) := by decide +kernel
theorem d_Rd_takesOfHead_4 : decode b_Rd_takesOfHead 4 = .ok (.tableswitch 124 1 3 #[28, 49, 100], 28) := by decide +kernel
theorem d_Rd_takesOfHead_32 : decode b_Rd_takesOfHead 32 = .ok (.aload_n 0, 1) := by decide +kernel
theorem d_Rd_takesOfHead_33 : decode b_Rd_takesOfHead 33 = .ok (.iload_n 1, 1) := by decide +kernel
theorem d_Rd_takesOfHead_34 : decode b_Rd_takesOfHead 34 = .ok (.putfield 22, 3) := by decide +kernel
theorem d_Rd_takesOfHead_37 : decode b_Rd_takesOfHead 37 = .ok (.aload_n 0, 1) := by decide +kernel
theorem d_Rd_takesOfHead_38 : decode b_Rd_takesOfHead 38 = .ok (.iconst 2, 1) := by decide +kernel
theorem d_Rd_takesOfHead_39 : decode b_Rd_takesOfHead 39 = .ok (.putfield 18, 3) := by decide +kernel
theorem d_Rd_takesOfHead_42 : decode b_Rd_takesOfHead 42 = .ok (.iload_n 1, 1) := by decide +kernel
theorem d_Rd_takesOfHead_43 : decode b_Rd_takesOfHead 43 = .ok (.iconst 3, 1) := by decide +kernel
theorem d_Rd_takesOfHead_44 : decode b_Rd_takesOfHead 44 = .ok (.if_icmp .gt 7, 3) := by decide +kernel
theorem d_Rd_takesOfHead_47 : decode b_Rd_takesOfHead 47 = .ok (.iconst 1, 1) := by decide +kernel
theorem d_Rd_takesOfHead_48 : decode b_Rd_takesOfHead 48 = .ok (.goto 4, 3) := by decide +kernel
theorem d_Rd_takesOfHead_51 : decode b_Rd_takesOfHead 51 = .ok (.iconst 0, 1) := by decide +kernel
theorem d_Rd_takesOfHead_52 : decode b_Rd_takesOfHead 52 = .ok (.ireturn, 1) := by decide +kernel
theorem d_Rd_takesOfHead_53 : decode b_Rd_takesOfHead 53 = .ok (.aload_n 0, 1) := by decide +kernel
theorem d_Rd_takesOfHead_54 : decode b_Rd_takesOfHead 54 = .ok (.getfield 12, 3) := by decide +kernel
theorem d_Rd_takesOfHead_57 : decode b_Rd_takesOfHead 57 = .ok (.bipush 10, 2) := by decide +kernel
theorem d_Rd_takesOfHead_59 : decode b_Rd_takesOfHead 59 = .ok (.aload_n 0, 1) := by decide +kernel
theorem d_Rd_takesOfHead_60 : decode b_Rd_takesOfHead 60 = .ok (.getfield 22, 3) := by decide +kernel
theorem d_Rd_takesOfHead_63 : decode b_Rd_takesOfHead 63 = .ok (.imul, 1) := by decide +kernel
theorem d_Rd_takesOfHead_64 : decode b_Rd_takesOfHead 64 = .ok (.iload_n 1, 1) := by decide +kernel
theorem d_Rd_takesOfHead_65 : decode b_Rd_takesOfHead 65 = .ok (.iadd, 1) := by decide +kernel
theorem d_Rd_takesOfHead_66 : decode b_Rd_takesOfHead 66 = .ok (.putfield 52, 3) := by decide +kernel
theorem d_Rd_takesOfHead_69 : decode b_Rd_takesOfHead 69 = .ok (.aload_n 0, 1) := by decide +kernel
theorem d_Rd_takesOfHead_70 : decode b_Rd_takesOfHead 70 = .ok (.iconst 3, 1) := by decide +kernel
theorem d_Rd_takesOfHead_71 : decode b_Rd_takesOfHead 71 = .ok (.putfield 18, 3) := by decide +kernel
theorem d_Rd_takesOfHead_74 : decode b_Rd_takesOfHead 74 = .ok (.aload_n 0, 1) := by decide +kernel
theorem d_Rd_takesOfHead_75 : decode b_Rd_takesOfHead 75 = .ok (.getfield 12, 3) := by decide +kernel
theorem d_Rd_takesOfHead_78 : decode b_Rd_takesOfHead 78 = .ok (.getfield 52, 3) := by decide +kernel
theorem d_Rd_takesOfHead_81 : decode b_Rd_takesOfHead 81 = .ok (.bipush 8, 2) := by decide +kernel
theorem d_Rd_takesOfHead_83 : decode b_Rd_takesOfHead 83 = .ok (.if_icmp .lt 19, 3) := by decide +kernel
theorem d_Rd_takesOfHead_86 : decode b_Rd_takesOfHead 86 = .ok (.aload_n 0, 1) := by decide +kernel
theorem d_Rd_takesOfHead_87 : decode b_Rd_takesOfHead 87 = .ok (.getfield 12, 3) := by decide +kernel
theorem d_Rd_takesOfHead_90 : decode b_Rd_takesOfHead 90 = .ok (.getfield 52, 3) := by decide +kernel
theorem d_Rd_takesOfHead_93 : decode b_Rd_takesOfHead 93 = .ok (.bipush 32, 2) := by decide +kernel
theorem d_Rd_takesOfHead_95 : decode b_Rd_takesOfHead 95 = .ok (.if_icmp .gt 7, 3) := by decide +kernel
theorem d_Rd_takesOfHead_98 : decode b_Rd_takesOfHead 98 = .ok (.iconst 1, 1) := by decide +kernel
theorem d_Rd_takesOfHead_99 : decode b_Rd_takesOfHead 99 = .ok (.goto 4, 3) := by decide +kernel
theorem d_Rd_takesOfHead_102 : decode b_Rd_takesOfHead 102 = .ok (.iconst 0, 1) := by decide +kernel
theorem d_Rd_takesOfHead_103 : decode b_Rd_takesOfHead 103 = .ok (.ireturn, 1) := by decide +kernel
theorem d_Rd_takesOfHead_104 : decode b_Rd_takesOfHead 104 = .ok (.aload_n 0, 1) := by decide +kernel
theorem d_Rd_takesOfHead_105 : decode b_Rd_takesOfHead 105 = .ok (.getfield 12, 3) := by decide +kernel
theorem d_Rd_takesOfHead_108 : decode b_Rd_takesOfHead 108 = .ok (.iload_n 1, 1) := by decide +kernel
theorem d_Rd_takesOfHead_109 : decode b_Rd_takesOfHead 109 = .ok (.putfield 55, 3) := by decide +kernel
theorem d_Rd_takesOfHead_112 : decode b_Rd_takesOfHead 112 = .ok (.aload_n 0, 1) := by decide +kernel
theorem d_Rd_takesOfHead_113 : decode b_Rd_takesOfHead 113 = .ok (.iconst 4, 1) := by decide +kernel
theorem d_Rd_takesOfHead_114 : decode b_Rd_takesOfHead 114 = .ok (.putfield 18, 3) := by decide +kernel
theorem d_Rd_takesOfHead_117 : decode b_Rd_takesOfHead 117 = .ok (.iload_n 1, 1) := by decide +kernel
theorem d_Rd_takesOfHead_118 : decode b_Rd_takesOfHead 118 = .ok (.iconst 1, 1) := by decide +kernel
theorem d_Rd_takesOfHead_119 : decode b_Rd_takesOfHead 119 = .ok (.if_icmp .lt 7, 3) := by decide +kernel
theorem d_Rd_takesOfHead_122 : decode b_Rd_takesOfHead 122 = .ok (.iconst 1, 1) := by decide +kernel
theorem d_Rd_takesOfHead_123 : decode b_Rd_takesOfHead 123 = .ok (.goto 4, 3) := by decide +kernel
theorem d_Rd_takesOfHead_126 : decode b_Rd_takesOfHead 126 = .ok (.iconst 0, 1) := by decide +kernel
theorem d_Rd_takesOfHead_127 : decode b_Rd_takesOfHead 127 = .ok (.ireturn, 1) := by decide +kernel
theorem d_Rd_takesOfHead_128 : decode b_Rd_takesOfHead 128 = .ok (.aload_n 0, 1) := by decide +kernel
theorem d_Rd_takesOfHead_129 : decode b_Rd_takesOfHead 129 = .ok (.getfield 12, 3) := by decide +kernel
theorem d_Rd_takesOfHead_132 : decode b_Rd_takesOfHead 132 = .ok (.iload_n 1, 1) := by decide +kernel
theorem d_Rd_takesOfHead_133 : decode b_Rd_takesOfHead 133 = .ok (.putfield 58, 3) := by decide +kernel
theorem d_Rd_takesOfHead_136 : decode b_Rd_takesOfHead 136 = .ok (.aload_n 0, 1) := by decide +kernel
theorem d_Rd_takesOfHead_137 : decode b_Rd_takesOfHead 137 = .ok (.iconst 5, 1) := by decide +kernel
theorem d_Rd_takesOfHead_138 : decode b_Rd_takesOfHead 138 = .ok (.putfield 18, 3) := by decide +kernel
theorem d_Rd_takesOfHead_141 : decode b_Rd_takesOfHead 141 = .ok (.iconst 1, 1) := by decide +kernel
theorem d_Rd_takesOfHead_142 : decode b_Rd_takesOfHead 142 = .ok (.ireturn, 1) := by decide +kernel
abbrev b_Pl_addNode : ByteArray := prog_5_method_4_code
abbrev y_Pl_addNode : MethodName := ⟨"TimeFlood$Plan", "addNode", "(II)V"⟩
theorem m_Pl_addNode : MWV y_Pl_addNode b_Pl_addNode 3 none 2 := ⟨wd_317, wd_318, wd_3, wd_319, by decide, by decide, by decide +kernel⟩
theorem d_Pl_addNode_0 : decode b_Pl_addNode 0 = .ok (.aload_n 0, 1) := by decide +kernel
theorem d_Pl_addNode_1 : decode b_Pl_addNode 1 = .ok (.getfield 21, 3) := by decide +kernel
theorem d_Pl_addNode_4 : decode b_Pl_addNode 4 = .ok (.iconst 5, 1) := by decide +kernel
theorem d_Pl_addNode_5 : decode b_Pl_addNode 5 = .ok (.if_icmp .ge 33, 3) := by decide +kernel
theorem d_Pl_addNode_8 : decode b_Pl_addNode 8 = .ok (.aload_n 0, 1) := by decide +kernel
theorem d_Pl_addNode_9 : decode b_Pl_addNode 9 = .ok (.getfield 27, 3) := by decide +kernel
theorem d_Pl_addNode_12 : decode b_Pl_addNode 12 = .ok (.aload_n 0, 1) := by decide +kernel
theorem d_Pl_addNode_13 : decode b_Pl_addNode 13 = .ok (.getfield 21, 3) := by decide +kernel
theorem d_Pl_addNode_16 : decode b_Pl_addNode 16 = .ok (.iload_n 1, 1) := by decide +kernel
theorem d_Pl_addNode_17 : decode b_Pl_addNode 17 = .ok (.iastore, 1) := by decide +kernel
theorem d_Pl_addNode_18 : decode b_Pl_addNode 18 = .ok (.aload_n 0, 1) := by decide +kernel
theorem d_Pl_addNode_19 : decode b_Pl_addNode 19 = .ok (.getfield 31, 3) := by decide +kernel
theorem d_Pl_addNode_22 : decode b_Pl_addNode 22 = .ok (.aload_n 0, 1) := by decide +kernel
theorem d_Pl_addNode_23 : decode b_Pl_addNode 23 = .ok (.getfield 21, 3) := by decide +kernel
theorem d_Pl_addNode_26 : decode b_Pl_addNode 26 = .ok (.iload_n 2, 1) := by decide +kernel
theorem d_Pl_addNode_27 : decode b_Pl_addNode 27 = .ok (.iastore, 1) := by decide +kernel
theorem d_Pl_addNode_28 : decode b_Pl_addNode 28 = .ok (.aload_n 0, 1) := by decide +kernel
theorem d_Pl_addNode_29 : decode b_Pl_addNode 29 = .ok (.dup, 1) := by decide +kernel
theorem d_Pl_addNode_30 : decode b_Pl_addNode 30 = .ok (.getfield 21, 3) := by decide +kernel
theorem d_Pl_addNode_33 : decode b_Pl_addNode 33 = .ok (.iconst 1, 1) := by decide +kernel
theorem d_Pl_addNode_34 : decode b_Pl_addNode 34 = .ok (.iadd, 1) := by decide +kernel
theorem d_Pl_addNode_35 : decode b_Pl_addNode 35 = .ok (.putfield 21, 3) := by decide +kernel
theorem d_Pl_addNode_38 : decode b_Pl_addNode 38 = .ok (.return_, 1) := by decide +kernel
abbrev b_Pl_canLink : ByteArray := prog_5_method_6_code
abbrev y_Pl_canLink : MethodName := ⟨"TimeFlood$Plan", "canLink", "(II)Z"⟩
theorem m_Pl_canLink : MWV y_Pl_canLink b_Pl_canLink 3 (Option.some FieldType.boolean) 2 := ⟨wd_325, wd_326, wd_3, wd_327, by decide, by decide, by decide +kernel⟩
theorem d_Pl_canLink_0 : decode b_Pl_canLink 0 = .ok (.iload_n 1, 1) := by decide +kernel
theorem d_Pl_canLink_1 : decode b_Pl_canLink 1 = .ok (.iload_n 2, 1) := by decide +kernel
theorem d_Pl_canLink_2 : decode b_Pl_canLink 2 = .ok (.if_icmp .eq 36, 3) := by decide +kernel
theorem d_Pl_canLink_5 : decode b_Pl_canLink 5 = .ok (.iload_n 1, 1) := by decide +kernel
theorem d_Pl_canLink_6 : decode b_Pl_canLink 6 = .ok (.aload_n 0, 1) := by decide +kernel
theorem d_Pl_canLink_7 : decode b_Pl_canLink 7 = .ok (.getfield 21, 3) := by decide +kernel
theorem d_Pl_canLink_10 : decode b_Pl_canLink 10 = .ok (.if_icmp .ge 28, 3) := by decide +kernel
theorem d_Pl_canLink_13 : decode b_Pl_canLink 13 = .ok (.iload_n 2, 1) := by decide +kernel
theorem d_Pl_canLink_14 : decode b_Pl_canLink 14 = .ok (.aload_n 0, 1) := by decide +kernel
theorem d_Pl_canLink_15 : decode b_Pl_canLink 15 = .ok (.getfield 21, 3) := by decide +kernel
theorem d_Pl_canLink_18 : decode b_Pl_canLink 18 = .ok (.if_icmp .ge 20, 3) := by decide +kernel
theorem d_Pl_canLink_21 : decode b_Pl_canLink 21 = .ok (.aload_n 0, 1) := by decide +kernel
theorem d_Pl_canLink_22 : decode b_Pl_canLink 22 = .ok (.getfield 42, 3) := by decide +kernel
theorem d_Pl_canLink_25 : decode b_Pl_canLink 25 = .ok (.iload_n 1, 1) := by decide +kernel
theorem d_Pl_canLink_26 : decode b_Pl_canLink 26 = .ok (.aaload, 1) := by decide +kernel
theorem d_Pl_canLink_27 : decode b_Pl_canLink 27 = .ok (.iload_n 2, 1) := by decide +kernel
theorem d_Pl_canLink_28 : decode b_Pl_canLink 28 = .ok (.iaload, 1) := by decide +kernel
theorem d_Pl_canLink_29 : decode b_Pl_canLink 29 = .ok (.bipush (-9), 2) := by decide +kernel
theorem d_Pl_canLink_31 : decode b_Pl_canLink 31 = .ok (.if_icmp .ne 7, 3) := by decide +kernel
theorem d_Pl_canLink_34 : decode b_Pl_canLink 34 = .ok (.iconst 1, 1) := by decide +kernel
theorem d_Pl_canLink_35 : decode b_Pl_canLink 35 = .ok (.goto 4, 3) := by decide +kernel
theorem d_Pl_canLink_38 : decode b_Pl_canLink 38 = .ok (.iconst 0, 1) := by decide +kernel
theorem d_Pl_canLink_39 : decode b_Pl_canLink 39 = .ok (.ireturn, 1) := by decide +kernel
abbrev b_Pl_canLinkFrom : ByteArray := prog_5_method_7_code
abbrev y_Pl_canLinkFrom : MethodName := ⟨"TimeFlood$Plan", "canLinkFrom", "(I)Z"⟩
theorem m_Pl_canLinkFrom : MWV y_Pl_canLinkFrom b_Pl_canLinkFrom 3 (Option.some FieldType.boolean) 1 := ⟨wd_321, wd_322, wd_3, wd_323, by decide, by decide, by decide +kernel⟩
theorem d_Pl_canLinkFrom_0 : decode b_Pl_canLinkFrom 0 = .ok (.iconst 0, 1) := by decide +kernel
theorem d_Pl_canLinkFrom_1 : decode b_Pl_canLinkFrom 1 = .ok (.istore_n 2, 1) := by decide +kernel
theorem d_Pl_canLinkFrom_2 : decode b_Pl_canLinkFrom 2 = .ok (.iload_n 2, 1) := by decide +kernel
theorem d_Pl_canLinkFrom_3 : decode b_Pl_canLinkFrom 3 = .ok (.aload_n 0, 1) := by decide +kernel
theorem d_Pl_canLinkFrom_4 : decode b_Pl_canLinkFrom 4 = .ok (.getfield 21, 3) := by decide +kernel
theorem d_Pl_canLinkFrom_7 : decode b_Pl_canLinkFrom 7 = .ok (.if_icmp .ge 20, 3) := by decide +kernel
theorem d_Pl_canLinkFrom_10 : decode b_Pl_canLinkFrom 10 = .ok (.aload_n 0, 1) := by decide +kernel
theorem d_Pl_canLinkFrom_11 : decode b_Pl_canLinkFrom 11 = .ok (.iload_n 1, 1) := by decide +kernel
theorem d_Pl_canLinkFrom_12 : decode b_Pl_canLinkFrom 12 = .ok (.iload_n 2, 1) := by decide +kernel
theorem d_Pl_canLinkFrom_13 : decode b_Pl_canLinkFrom 13 = .ok (.invokevirtual 56, 3) := by decide +kernel
theorem d_Pl_canLinkFrom_16 : decode b_Pl_canLinkFrom 16 = .ok (.ifCond .eq 5, 3) := by decide +kernel
theorem d_Pl_canLinkFrom_19 : decode b_Pl_canLinkFrom 19 = .ok (.iconst 1, 1) := by decide +kernel
theorem d_Pl_canLinkFrom_20 : decode b_Pl_canLinkFrom 20 = .ok (.ireturn, 1) := by decide +kernel
theorem d_Pl_canLinkFrom_21 : decode b_Pl_canLinkFrom 21 = .ok (.iinc 2 1, 3) := by decide +kernel
theorem d_Pl_canLinkFrom_24 : decode b_Pl_canLinkFrom 24 = .ok (.goto (-22), 3) := by decide +kernel
theorem d_Pl_canLinkFrom_27 : decode b_Pl_canLinkFrom 27 = .ok (.iconst 0, 1) := by decide +kernel
theorem d_Pl_canLinkFrom_28 : decode b_Pl_canLinkFrom 28 = .ok (.ireturn, 1) := by decide +kernel
abbrev b_Mt_min : ByteArray := prog_12_method_69_code
abbrev y_Mt_min : MethodName := ⟨"java/lang/Math", "min", "(II)I"⟩
theorem m_Mt_min : MWS y_Mt_min b_Mt_min 2 (Option.some FieldType.int) 2 := ⟨wd_333, wd_10, wd_334, by decide, by decide, by decide +kernel⟩
theorem d_Mt_min_0 : decode b_Mt_min 0 = .ok (.iload_n 0, 1) := by decide +kernel
theorem d_Mt_min_1 : decode b_Mt_min 1 = .ok (.iload_n 1, 1) := by decide +kernel
theorem d_Mt_min_2 : decode b_Mt_min 2 = .ok (.if_icmp .gt 7, 3) := by decide +kernel
theorem d_Mt_min_5 : decode b_Mt_min 5 = .ok (.iload_n 0, 1) := by decide +kernel
theorem d_Mt_min_6 : decode b_Mt_min 6 = .ok (.goto 4, 3) := by decide +kernel
theorem d_Mt_min_9 : decode b_Mt_min 9 = .ok (.iload_n 1, 1) := by decide +kernel
theorem d_Mt_min_10 : decode b_Mt_min 10 = .ok (.ireturn, 1) := by decide +kernel
abbrev b_Mt_max : ByteArray := prog_12_method_65_code
abbrev y_Mt_max : MethodName := ⟨"java/lang/Math", "max", "(II)I"⟩
theorem m_Mt_max : MWS y_Mt_max b_Mt_max 2 (Option.some FieldType.int) 2 := ⟨wd_336, wd_10, wd_337, by decide, by decide, by decide +kernel⟩
theorem d_Mt_max_0 : decode b_Mt_max 0 = .ok (.iload_n 0, 1) := by decide +kernel
theorem d_Mt_max_1 : decode b_Mt_max 1 = .ok (.iload_n 1, 1) := by decide +kernel
theorem d_Mt_max_2 : decode b_Mt_max 2 = .ok (.if_icmp .lt 7, 3) := by decide +kernel
theorem d_Mt_max_5 : decode b_Mt_max 5 = .ok (.iload_n 0, 1) := by decide +kernel
theorem d_Mt_max_6 : decode b_Mt_max 6 = .ok (.goto 4, 3) := by decide +kernel
theorem d_Mt_max_9 : decode b_Mt_max 9 = .ok (.iload_n 1, 1) := by decide +kernel
theorem d_Mt_max_10 : decode b_Mt_max 10 = .ok (.ireturn, 1) := by decide +kernel
abbrev b_Pl_addLink : ByteArray := prog_5_method_5_code
abbrev y_Pl_addLink : MethodName := ⟨"TimeFlood$Plan", "addLink", "(II)Z"⟩
theorem m_Pl_addLink : MWV y_Pl_addLink b_Pl_addLink 3 (Option.some FieldType.boolean) 2 := ⟨wd_329, wd_330, wd_3, wd_331, by decide, by decide, by decide +kernel⟩
theorem d_Pl_addLink_0 : decode b_Pl_addLink 0 = .ok (.aload_n 0, 1) := by decide +kernel
theorem d_Pl_addLink_1 : decode b_Pl_addLink 1 = .ok (.getfield 24, 3) := by decide +kernel
theorem d_Pl_addLink_4 : decode b_Pl_addLink 4 = .ok (.bipush 7, 2) := by decide +kernel
theorem d_Pl_addLink_6 : decode b_Pl_addLink 6 = .ok (.if_icmp .ge 12, 3) := by decide +kernel
theorem d_Pl_addLink_9 : decode b_Pl_addLink 9 = .ok (.aload_n 0, 1) := by decide +kernel
theorem d_Pl_addLink_10 : decode b_Pl_addLink 10 = .ok (.iload_n 1, 1) := by decide +kernel
theorem d_Pl_addLink_11 : decode b_Pl_addLink 11 = .ok (.iload_n 2, 1) := by decide +kernel
theorem d_Pl_addLink_12 : decode b_Pl_addLink 12 = .ok (.invokevirtual 56, 3) := by decide +kernel
theorem d_Pl_addLink_15 : decode b_Pl_addLink 15 = .ok (.ifCond .ne 5, 3) := by decide +kernel
theorem d_Pl_addLink_18 : decode b_Pl_addLink 18 = .ok (.iconst 0, 1) := by decide +kernel
theorem d_Pl_addLink_19 : decode b_Pl_addLink 19 = .ok (.ireturn, 1) := by decide +kernel
theorem d_Pl_addLink_20 : decode b_Pl_addLink 20 = .ok (.aload_n 0, 1) := by decide +kernel
theorem d_Pl_addLink_21 : decode b_Pl_addLink 21 = .ok (.getfield 34, 3) := by decide +kernel
theorem d_Pl_addLink_24 : decode b_Pl_addLink 24 = .ok (.aload_n 0, 1) := by decide +kernel
theorem d_Pl_addLink_25 : decode b_Pl_addLink 25 = .ok (.getfield 24, 3) := by decide +kernel
theorem d_Pl_addLink_28 : decode b_Pl_addLink 28 = .ok (.iload_n 1, 1) := by decide +kernel
theorem d_Pl_addLink_29 : decode b_Pl_addLink 29 = .ok (.iload_n 2, 1) := by decide +kernel
theorem d_Pl_addLink_30 : decode b_Pl_addLink 30 = .ok (.invokestatic 59, 3) := by decide +kernel
theorem d_Pl_addLink_33 : decode b_Pl_addLink 33 = .ok (.iastore, 1) := by decide +kernel
theorem d_Pl_addLink_34 : decode b_Pl_addLink 34 = .ok (.aload_n 0, 1) := by decide +kernel
theorem d_Pl_addLink_35 : decode b_Pl_addLink 35 = .ok (.getfield 37, 3) := by decide +kernel
theorem d_Pl_addLink_38 : decode b_Pl_addLink 38 = .ok (.aload_n 0, 1) := by decide +kernel
theorem d_Pl_addLink_39 : decode b_Pl_addLink 39 = .ok (.getfield 24, 3) := by decide +kernel
theorem d_Pl_addLink_42 : decode b_Pl_addLink 42 = .ok (.iload_n 1, 1) := by decide +kernel
theorem d_Pl_addLink_43 : decode b_Pl_addLink 43 = .ok (.iload_n 2, 1) := by decide +kernel
theorem d_Pl_addLink_44 : decode b_Pl_addLink 44 = .ok (.invokestatic 65, 3) := by decide +kernel
theorem d_Pl_addLink_47 : decode b_Pl_addLink 47 = .ok (.iastore, 1) := by decide +kernel
theorem d_Pl_addLink_48 : decode b_Pl_addLink 48 = .ok (.aload_n 0, 1) := by decide +kernel
theorem d_Pl_addLink_49 : decode b_Pl_addLink 49 = .ok (.getfield 42, 3) := by decide +kernel
theorem d_Pl_addLink_52 : decode b_Pl_addLink 52 = .ok (.iload_n 1, 1) := by decide +kernel
theorem d_Pl_addLink_53 : decode b_Pl_addLink 53 = .ok (.aaload, 1) := by decide +kernel
theorem d_Pl_addLink_54 : decode b_Pl_addLink 54 = .ok (.iload_n 2, 1) := by decide +kernel
theorem d_Pl_addLink_55 : decode b_Pl_addLink 55 = .ok (.aload_n 0, 1) := by decide +kernel
theorem d_Pl_addLink_56 : decode b_Pl_addLink 56 = .ok (.getfield 24, 3) := by decide +kernel
theorem d_Pl_addLink_59 : decode b_Pl_addLink 59 = .ok (.iastore, 1) := by decide +kernel
theorem d_Pl_addLink_60 : decode b_Pl_addLink 60 = .ok (.aload_n 0, 1) := by decide +kernel
theorem d_Pl_addLink_61 : decode b_Pl_addLink 61 = .ok (.getfield 42, 3) := by decide +kernel
theorem d_Pl_addLink_64 : decode b_Pl_addLink 64 = .ok (.iload_n 2, 1) := by decide +kernel
theorem d_Pl_addLink_65 : decode b_Pl_addLink 65 = .ok (.aaload, 1) := by decide +kernel
theorem d_Pl_addLink_66 : decode b_Pl_addLink 66 = .ok (.iload_n 1, 1) := by decide +kernel
theorem d_Pl_addLink_67 : decode b_Pl_addLink 67 = .ok (.aload_n 0, 1) := by decide +kernel
theorem d_Pl_addLink_68 : decode b_Pl_addLink 68 = .ok (.getfield 24, 3) := by decide +kernel
theorem d_Pl_addLink_71 : decode b_Pl_addLink 71 = .ok (.iastore, 1) := by decide +kernel
theorem d_Pl_addLink_72 : decode b_Pl_addLink 72 = .ok (.aload_n 0, 1) := by decide +kernel
theorem d_Pl_addLink_73 : decode b_Pl_addLink 73 = .ok (.dup, 1) := by decide +kernel
theorem d_Pl_addLink_74 : decode b_Pl_addLink 74 = .ok (.getfield 24, 3) := by decide +kernel
theorem d_Pl_addLink_77 : decode b_Pl_addLink 77 = .ok (.iconst 1, 1) := by decide +kernel
theorem d_Pl_addLink_78 : decode b_Pl_addLink 78 = .ok (.iadd, 1) := by decide +kernel
theorem d_Pl_addLink_79 : decode b_Pl_addLink 79 = .ok (.putfield 24, 3) := by decide +kernel
theorem d_Pl_addLink_82 : decode b_Pl_addLink 82 = .ok (.iconst 1, 1) := by decide +kernel
theorem d_Pl_addLink_83 : decode b_Pl_addLink 83 = .ok (.ireturn, 1) := by decide +kernel
abbrev b_Rd_takesOfItem : ByteArray := prog_6_method_6_code
abbrev y_Rd_takesOfItem : MethodName := ⟨"TimeFlood$Reader", "takesOfItem", "(I)Z"⟩
theorem m_Rd_takesOfItem : MWV y_Rd_takesOfItem b_Rd_takesOfItem 2 (Option.some FieldType.boolean) 1 := ⟨wd_314, wp_3, wd_2, wd_315, by decide, by decide, by decide +kernel⟩
theorem d_Rd_takesOfItem_0 : decode b_Rd_takesOfItem 0 = .ok (.aload_n 0, 1) := by decide +kernel
theorem d_Rd_takesOfItem_1 : decode b_Rd_takesOfItem 1 = .ok (.getfield 18, 3) := by decide +kernel
theorem d_Rd_takesOfItem_4 : decode b_Rd_takesOfItem 4 = .ok (.tableswitch 136 6 9 #[32, 48, 71, 116], 32) := by decide +kernel
theorem d_Rd_takesOfItem_36 : decode b_Rd_takesOfItem 36 = .ok (.aload_n 0, 1) := by decide +kernel
theorem d_Rd_takesOfItem_37 : decode b_Rd_takesOfItem 37 = .ok (.iload_n 1, 1) := by decide +kernel
theorem d_Rd_takesOfItem_38 : decode b_Rd_takesOfItem 38 = .ok (.bipush (-4), 2) := by decide +kernel
theorem d_Rd_takesOfItem_40 : decode b_Rd_takesOfItem 40 = .ok (.iadd, 1) := by decide +kernel
theorem d_Rd_takesOfItem_41 : decode b_Rd_takesOfItem 41 = .ok (.putfield 25, 3) := by decide +kernel
theorem d_Rd_takesOfItem_44 : decode b_Rd_takesOfItem 44 = .ok (.aload_n 0, 1) := by decide +kernel
theorem d_Rd_takesOfItem_45 : decode b_Rd_takesOfItem 45 = .ok (.bipush 7, 2) := by decide +kernel
theorem d_Rd_takesOfItem_47 : decode b_Rd_takesOfItem 47 = .ok (.putfield 18, 3) := by decide +kernel
theorem d_Rd_takesOfItem_50 : decode b_Rd_takesOfItem 50 = .ok (.iconst 1, 1) := by decide +kernel
theorem d_Rd_takesOfItem_51 : decode b_Rd_takesOfItem 51 = .ok (.ireturn, 1) := by decide +kernel
theorem d_Rd_takesOfItem_52 : decode b_Rd_takesOfItem 52 = .ok (.aload_n 0, 1) := by decide +kernel
theorem d_Rd_takesOfItem_53 : decode b_Rd_takesOfItem 53 = .ok (.iload_n 1, 1) := by decide +kernel
theorem d_Rd_takesOfItem_54 : decode b_Rd_takesOfItem 54 = .ok (.putfield 22, 3) := by decide +kernel
theorem d_Rd_takesOfItem_57 : decode b_Rd_takesOfItem 57 = .ok (.aload_n 0, 1) := by decide +kernel
theorem d_Rd_takesOfItem_58 : decode b_Rd_takesOfItem 58 = .ok (.bipush 8, 2) := by decide +kernel
theorem d_Rd_takesOfItem_60 : decode b_Rd_takesOfItem 60 = .ok (.putfield 18, 3) := by decide +kernel
theorem d_Rd_takesOfItem_63 : decode b_Rd_takesOfItem 63 = .ok (.iload_n 1, 1) := by decide +kernel
theorem d_Rd_takesOfItem_64 : decode b_Rd_takesOfItem 64 = .ok (.bipush 6, 2) := by decide +kernel
theorem d_Rd_takesOfItem_66 : decode b_Rd_takesOfItem 66 = .ok (.if_icmp .gt 7, 3) := by decide +kernel
theorem d_Rd_takesOfItem_69 : decode b_Rd_takesOfItem 69 = .ok (.iconst 1, 1) := by decide +kernel
theorem d_Rd_takesOfItem_70 : decode b_Rd_takesOfItem 70 = .ok (.goto 4, 3) := by decide +kernel
theorem d_Rd_takesOfItem_73 : decode b_Rd_takesOfItem 73 = .ok (.iconst 0, 1) := by decide +kernel
theorem d_Rd_takesOfItem_74 : decode b_Rd_takesOfItem 74 = .ok (.ireturn, 1) := by decide +kernel
theorem d_Rd_takesOfItem_75 : decode b_Rd_takesOfItem 75 = .ok (.aload_n 0, 1) := by decide +kernel
theorem d_Rd_takesOfItem_76 : decode b_Rd_takesOfItem 76 = .ok (.getfield 12, 3) := by decide +kernel
theorem d_Rd_takesOfItem_79 : decode b_Rd_takesOfItem 79 = .ok (.aload_n 0, 1) := by decide +kernel
theorem d_Rd_takesOfItem_80 : decode b_Rd_takesOfItem 80 = .ok (.getfield 25, 3) := by decide +kernel
theorem d_Rd_takesOfItem_83 : decode b_Rd_takesOfItem 83 = .ok (.bipush 10, 2) := by decide +kernel
theorem d_Rd_takesOfItem_85 : decode b_Rd_takesOfItem 85 = .ok (.aload_n 0, 1) := by decide +kernel
theorem d_Rd_takesOfItem_86 : decode b_Rd_takesOfItem 86 = .ok (.getfield 22, 3) := by decide +kernel
theorem d_Rd_takesOfItem_89 : decode b_Rd_takesOfItem 89 = .ok (.imul, 1) := by decide +kernel
theorem d_Rd_takesOfItem_90 : decode b_Rd_takesOfItem 90 = .ok (.iload_n 1, 1) := by decide +kernel
theorem d_Rd_takesOfItem_91 : decode b_Rd_takesOfItem 91 = .ok (.iadd, 1) := by decide +kernel
theorem d_Rd_takesOfItem_92 : decode b_Rd_takesOfItem 92 = .ok (.invokevirtual 61, 3) := by decide +kernel
theorem d_Rd_takesOfItem_95 : decode b_Rd_takesOfItem 95 = .ok (.aload_n 0, 1) := by decide +kernel
theorem d_Rd_takesOfItem_96 : decode b_Rd_takesOfItem 96 = .ok (.iconst 5, 1) := by decide +kernel
theorem d_Rd_takesOfItem_97 : decode b_Rd_takesOfItem 97 = .ok (.putfield 18, 3) := by decide +kernel
theorem d_Rd_takesOfItem_100 : decode b_Rd_takesOfItem 100 = .ok (.bipush 10, 2) := by decide +kernel
theorem d_Rd_takesOfItem_102 : decode b_Rd_takesOfItem 102 = .ok (.aload_n 0, 1) := by decide +kernel
theorem d_Rd_takesOfItem_103 : decode b_Rd_takesOfItem 103 = .ok (.getfield 22, 3) := by decide +kernel
theorem d_Rd_takesOfItem_106 : decode b_Rd_takesOfItem 106 = .ok (.imul, 1) := by decide +kernel
theorem d_Rd_takesOfItem_107 : decode b_Rd_takesOfItem 107 = .ok (.iload_n 1, 1) := by decide +kernel
theorem d_Rd_takesOfItem_108 : decode b_Rd_takesOfItem 108 = .ok (.iadd, 1) := by decide +kernel
theorem d_Rd_takesOfItem_109 : decode b_Rd_takesOfItem 109 = .ok (.bipush 63, 2) := by decide +kernel
theorem d_Rd_takesOfItem_111 : decode b_Rd_takesOfItem 111 = .ok (.if_icmp .gt 7, 3) := by decide +kernel
theorem d_Rd_takesOfItem_114 : decode b_Rd_takesOfItem 114 = .ok (.iconst 1, 1) := by decide +kernel
theorem d_Rd_takesOfItem_115 : decode b_Rd_takesOfItem 115 = .ok (.goto 4, 3) := by decide +kernel
theorem d_Rd_takesOfItem_118 : decode b_Rd_takesOfItem 118 = .ok (.iconst 0, 1) := by decide +kernel
theorem d_Rd_takesOfItem_119 : decode b_Rd_takesOfItem 119 = .ok (.ireturn, 1) := by decide +kernel
theorem d_Rd_takesOfItem_120 : decode b_Rd_takesOfItem 120 = .ok (.aload_n 0, 1) := by decide +kernel
theorem d_Rd_takesOfItem_121 : decode b_Rd_takesOfItem 121 = .ok (.iload_n 1, 1) := by decide +kernel
theorem d_Rd_takesOfItem_122 : decode b_Rd_takesOfItem 122 = .ok (.putfield 22, 3) := by decide +kernel
theorem d_Rd_takesOfItem_125 : decode b_Rd_takesOfItem 125 = .ok (.aload_n 0, 1) := by decide +kernel
theorem d_Rd_takesOfItem_126 : decode b_Rd_takesOfItem 126 = .ok (.bipush 10, 2) := by decide +kernel
theorem d_Rd_takesOfItem_128 : decode b_Rd_takesOfItem 128 = .ok (.putfield 18, 3) := by decide +kernel
theorem d_Rd_takesOfItem_131 : decode b_Rd_takesOfItem 131 = .ok (.aload_n 0, 1) := by decide +kernel
theorem d_Rd_takesOfItem_132 : decode b_Rd_takesOfItem 132 = .ok (.getfield 12, 3) := by decide +kernel
theorem d_Rd_takesOfItem_135 : decode b_Rd_takesOfItem 135 = .ok (.iload_n 1, 1) := by decide +kernel
theorem d_Rd_takesOfItem_136 : decode b_Rd_takesOfItem 136 = .ok (.invokevirtual 65, 3) := by decide +kernel
theorem d_Rd_takesOfItem_139 : decode b_Rd_takesOfItem 139 = .ok (.ireturn, 1) := by decide +kernel
theorem d_Rd_takesOfItem_140 : decode b_Rd_takesOfItem 140 = .ok (.aload_n 0, 1) := by decide +kernel
theorem d_Rd_takesOfItem_141 : decode b_Rd_takesOfItem 141 = .ok (.iconst 5, 1) := by decide +kernel
theorem d_Rd_takesOfItem_142 : decode b_Rd_takesOfItem 142 = .ok (.putfield 18, 3) := by decide +kernel
theorem d_Rd_takesOfItem_145 : decode b_Rd_takesOfItem 145 = .ok (.aload_n 0, 1) := by decide +kernel
theorem d_Rd_takesOfItem_146 : decode b_Rd_takesOfItem 146 = .ok (.getfield 12, 3) := by decide +kernel
theorem d_Rd_takesOfItem_149 : decode b_Rd_takesOfItem 149 = .ok (.aload_n 0, 1) := by decide +kernel
theorem d_Rd_takesOfItem_150 : decode b_Rd_takesOfItem 150 = .ok (.getfield 22, 3) := by decide +kernel
theorem d_Rd_takesOfItem_153 : decode b_Rd_takesOfItem 153 = .ok (.iload_n 1, 1) := by decide +kernel
theorem d_Rd_takesOfItem_154 : decode b_Rd_takesOfItem 154 = .ok (.invokevirtual 68, 3) := by decide +kernel
theorem d_Rd_takesOfItem_157 : decode b_Rd_takesOfItem 157 = .ok (.ireturn, 1) := by decide +kernel
abbrev b_Rd_takes : ByteArray := prog_6_method_3_code
abbrev y_Rd_takes : MethodName := ⟨"TimeFlood$Reader", "takes", "(C)Z"⟩
theorem m_Rd_takes : MWV y_Rd_takes b_Rd_takes 3 (Option.some FieldType.boolean) 1 := ⟨wd_298, wp_0, wd_2, wd_299, by decide, by decide, by decide +kernel⟩
theorem d_Rd_takes_0 : decode b_Rd_takes 0 = .ok (.aload_n 0, 1) := by decide +kernel
theorem d_Rd_takes_1 : decode b_Rd_takes 1 = .ok (.getfield 18, 3) := by decide +kernel
theorem d_Rd_takes_4 : decode b_Rd_takes 4 = .ok (.ifCond .ne 20, 3) := by decide +kernel
theorem d_Rd_takes_7 : decode b_Rd_takes 7 = .ok (.aload_n 0, 1) := by decide +kernel
theorem d_Rd_takes_8 : decode b_Rd_takes 8 = .ok (.iconst 1, 1) := by decide +kernel
theorem d_Rd_takes_9 : decode b_Rd_takes 9 = .ok (.putfield 18, 3) := by decide +kernel
theorem d_Rd_takes_12 : decode b_Rd_takes 12 = .ok (.iload_n 1, 1) := by decide +kernel
theorem d_Rd_takes_13 : decode b_Rd_takes 13 = .ok (.bipush 70, 2) := by decide +kernel
theorem d_Rd_takes_15 : decode b_Rd_takes 15 = .ok (.if_icmp .ne 7, 3) := by decide +kernel
theorem d_Rd_takes_18 : decode b_Rd_takes 18 = .ok (.iconst 1, 1) := by decide +kernel
theorem d_Rd_takes_19 : decode b_Rd_takes 19 = .ok (.goto 4, 3) := by decide +kernel
theorem d_Rd_takes_22 : decode b_Rd_takes 22 = .ok (.iconst 0, 1) := by decide +kernel
theorem d_Rd_takes_23 : decode b_Rd_takes 23 = .ok (.ireturn, 1) := by decide +kernel
theorem d_Rd_takes_24 : decode b_Rd_takes 24 = .ok (.aload_n 0, 1) := by decide +kernel
theorem d_Rd_takes_25 : decode b_Rd_takes 25 = .ok (.getfield 18, 3) := by decide +kernel
theorem d_Rd_takes_28 : decode b_Rd_takes 28 = .ok (.iconst 5, 1) := by decide +kernel
theorem d_Rd_takes_29 : decode b_Rd_takes 29 = .ok (.if_icmp .ne 9, 3) := by decide +kernel
theorem d_Rd_takes_32 : decode b_Rd_takes 32 = .ok (.aload_n 0, 1) := by decide +kernel
theorem d_Rd_takes_33 : decode b_Rd_takes 33 = .ok (.iload_n 1, 1) := by decide +kernel
theorem d_Rd_takes_34 : decode b_Rd_takes 34 = .ok (.invokevirtual 35, 3) := by decide +kernel
theorem d_Rd_takes_37 : decode b_Rd_takes 37 = .ok (.ireturn, 1) := by decide +kernel
theorem d_Rd_takes_38 : decode b_Rd_takes 38 = .ok (.iload_n 1, 1) := by decide +kernel
theorem d_Rd_takes_39 : decode b_Rd_takes 39 = .ok (.bipush 48, 2) := by decide +kernel
theorem d_Rd_takes_41 : decode b_Rd_takes 41 = .ok (.if_icmp .lt 9, 3) := by decide +kernel
theorem d_Rd_takes_44 : decode b_Rd_takes 44 = .ok (.iload_n 1, 1) := by decide +kernel
theorem d_Rd_takes_45 : decode b_Rd_takes 45 = .ok (.bipush 57, 2) := by decide +kernel
theorem d_Rd_takes_47 : decode b_Rd_takes 47 = .ok (.if_icmp .le 5, 3) := by decide +kernel
theorem d_Rd_takes_50 : decode b_Rd_takes 50 = .ok (.iconst 0, 1) := by decide +kernel
theorem d_Rd_takes_51 : decode b_Rd_takes 51 = .ok (.ireturn, 1) := by decide +kernel
theorem d_Rd_takes_52 : decode b_Rd_takes 52 = .ok (.iload_n 1, 1) := by decide +kernel
theorem d_Rd_takes_53 : decode b_Rd_takes 53 = .ok (.bipush 48, 2) := by decide +kernel
theorem d_Rd_takes_55 : decode b_Rd_takes 55 = .ok (.isub, 1) := by decide +kernel
theorem d_Rd_takes_56 : decode b_Rd_takes 56 = .ok (.istore_n 2, 1) := by decide +kernel
theorem d_Rd_takes_57 : decode b_Rd_takes 57 = .ok (.aload_n 0, 1) := by decide +kernel
theorem d_Rd_takes_58 : decode b_Rd_takes 58 = .ok (.getfield 18, 3) := by decide +kernel
theorem d_Rd_takes_61 : decode b_Rd_takes 61 = .ok (.iconst 5, 1) := by decide +kernel
theorem d_Rd_takes_62 : decode b_Rd_takes 62 = .ok (.if_icmp .ge 11, 3) := by decide +kernel
theorem d_Rd_takes_65 : decode b_Rd_takes 65 = .ok (.aload_n 0, 1) := by decide +kernel
theorem d_Rd_takes_66 : decode b_Rd_takes 66 = .ok (.iload_n 2, 1) := by decide +kernel
theorem d_Rd_takes_67 : decode b_Rd_takes 67 = .ok (.invokevirtual 38, 3) := by decide +kernel
theorem d_Rd_takes_70 : decode b_Rd_takes 70 = .ok (.goto 8, 3) := by decide +kernel
theorem d_Rd_takes_73 : decode b_Rd_takes 73 = .ok (.aload_n 0, 1) := by decide +kernel
theorem d_Rd_takes_74 : decode b_Rd_takes 74 = .ok (.iload_n 2, 1) := by decide +kernel
theorem d_Rd_takes_75 : decode b_Rd_takes 75 = .ok (.invokevirtual 42, 3) := by decide +kernel
theorem d_Rd_takes_78 : decode b_Rd_takes 78 = .ok (.ireturn, 1) := by decide +kernel
abbrev b_Rd_read : ByteArray := prog_6_method_2_code
abbrev y_Rd_read : MethodName := ⟨"TimeFlood$Reader", "read", "([CI)I"⟩
theorem m_Rd_read : MWV y_Rd_read b_Rd_read 4 (Option.some FieldType.int) 2 := ⟨wd_289, wd_290, wd_2, wd_291, by decide, by decide, by decide +kernel⟩
theorem d_Rd_read_0 : decode b_Rd_read 0 = .ok (.aload_n 0, 1) := by decide +kernel
theorem d_Rd_read_1 : decode b_Rd_read 1 = .ok (.getfield 12, 3) := by decide +kernel
theorem d_Rd_read_4 : decode b_Rd_read 4 = .ok (.invokevirtual 28, 3) := by decide +kernel
theorem d_Rd_read_7 : decode b_Rd_read 7 = .ok (.aload_n 0, 1) := by decide +kernel
theorem d_Rd_read_8 : decode b_Rd_read 8 = .ok (.iconst 0, 1) := by decide +kernel
theorem d_Rd_read_9 : decode b_Rd_read 9 = .ok (.putfield 18, 3) := by decide +kernel
theorem d_Rd_read_12 : decode b_Rd_read 12 = .ok (.iconst 0, 1) := by decide +kernel
theorem d_Rd_read_13 : decode b_Rd_read 13 = .ok (.istore_n 3, 1) := by decide +kernel
theorem d_Rd_read_14 : decode b_Rd_read 14 = .ok (.iload_n 3, 1) := by decide +kernel
theorem d_Rd_read_15 : decode b_Rd_read 15 = .ok (.iload_n 2, 1) := by decide +kernel
theorem d_Rd_read_16 : decode b_Rd_read 16 = .ok (.if_icmp .ge 27, 3) := by decide +kernel
theorem d_Rd_read_19 : decode b_Rd_read 19 = .ok (.iload_n 3, 1) := by decide +kernel
theorem d_Rd_read_20 : decode b_Rd_read 20 = .ok (.aload_n 1, 1) := by decide +kernel
theorem d_Rd_read_21 : decode b_Rd_read 21 = .ok (.arraylength, 1) := by decide +kernel
theorem d_Rd_read_22 : decode b_Rd_read 22 = .ok (.if_icmp .ge 21, 3) := by decide +kernel
theorem d_Rd_read_25 : decode b_Rd_read 25 = .ok (.aload_n 0, 1) := by decide +kernel
theorem d_Rd_read_26 : decode b_Rd_read 26 = .ok (.aload_n 1, 1) := by decide +kernel
theorem d_Rd_read_27 : decode b_Rd_read 27 = .ok (.iload_n 3, 1) := by decide +kernel
theorem d_Rd_read_28 : decode b_Rd_read 28 = .ok (.caload, 1) := by decide +kernel
theorem d_Rd_read_29 : decode b_Rd_read 29 = .ok (.invokevirtual 31, 3) := by decide +kernel
theorem d_Rd_read_32 : decode b_Rd_read 32 = .ok (.ifCond .ne 5, 3) := by decide +kernel
theorem d_Rd_read_35 : decode b_Rd_read 35 = .ok (.iload_n 3, 1) := by decide +kernel
theorem d_Rd_read_36 : decode b_Rd_read 36 = .ok (.ireturn, 1) := by decide +kernel
theorem d_Rd_read_37 : decode b_Rd_read 37 = .ok (.iinc 3 1, 3) := by decide +kernel
theorem d_Rd_read_40 : decode b_Rd_read 40 = .ok (.goto (-26), 3) := by decide +kernel
theorem d_Rd_read_43 : decode b_Rd_read 43 = .ok (.aload_n 0, 1) := by decide +kernel
theorem d_Rd_read_44 : decode b_Rd_read 44 = .ok (.getfield 18, 3) := by decide +kernel
theorem d_Rd_read_47 : decode b_Rd_read 47 = .ok (.iconst 5, 1) := by decide +kernel
theorem d_Rd_read_48 : decode b_Rd_read 48 = .ok (.if_icmp .ne 8, 3) := by decide +kernel
theorem d_Rd_read_51 : decode b_Rd_read 51 = .ok (.bipush (-9), 2) := by decide +kernel
theorem d_Rd_read_53 : decode b_Rd_read 53 = .ok (.goto 4, 3) := by decide +kernel
theorem d_Rd_read_56 : decode b_Rd_read 56 = .ok (.iload_n 2, 1) := by decide +kernel
theorem d_Rd_read_57 : decode b_Rd_read 57 = .ok (.ireturn, 1) := by decide +kernel
abbrev b_TF_fault : ByteArray := prog_1_method_4_code
abbrev y_TF_fault : MethodName := ⟨"TimeFlood", "fault", "()I"⟩
theorem m_TF_fault : MWV y_TF_fault b_TF_fault 1 (Option.some FieldType.int) 0 := ⟨wd_285, wd_286, wd_1, wd_287, by decide, by decide, by decide +kernel⟩
theorem d_TF_fault_0 : decode b_TF_fault 0 = .ok (.aload_n 0, 1) := by decide +kernel
theorem d_TF_fault_1 : decode b_TF_fault 1 = .ok (.getfield 20, 3) := by decide +kernel
theorem d_TF_fault_4 : decode b_TF_fault 4 = .ok (.aload_n 0, 1) := by decide +kernel
theorem d_TF_fault_5 : decode b_TF_fault 5 = .ok (.getfield 9, 3) := by decide +kernel
theorem d_TF_fault_8 : decode b_TF_fault 8 = .ok (.aload_n 0, 1) := by decide +kernel
theorem d_TF_fault_9 : decode b_TF_fault 9 = .ok (.getfield 13, 3) := by decide +kernel
theorem d_TF_fault_12 : decode b_TF_fault 12 = .ok (.invokevirtual 72, 3) := by decide +kernel
theorem d_TF_fault_15 : decode b_TF_fault 15 = .ok (.ireturn, 1) := by decide +kernel
abbrev b_Pl_copyFrom : ByteArray := prog_5_method_3_code
abbrev y_Pl_copyFrom : MethodName := ⟨"TimeFlood$Plan", "copyFrom", "(LTimeFlood$Plan;)V"⟩
theorem m_Pl_copyFrom : MWV y_Pl_copyFrom b_Pl_copyFrom 3 none 1 := ⟨wd_343, wd_344, wd_3, wd_345, by decide, by decide, by decide +kernel⟩
theorem d_Pl_copyFrom_0 : decode b_Pl_copyFrom 0 = .ok (.aload_n 0, 1) := by decide +kernel
theorem d_Pl_copyFrom_1 : decode b_Pl_copyFrom 1 = .ok (.invokevirtual 45, 3) := by decide +kernel
theorem d_Pl_copyFrom_4 : decode b_Pl_copyFrom 4 = .ok (.aload_n 0, 1) := by decide +kernel
theorem d_Pl_copyFrom_5 : decode b_Pl_copyFrom 5 = .ok (.aload_n 1, 1) := by decide +kernel
theorem d_Pl_copyFrom_6 : decode b_Pl_copyFrom 6 = .ok (.getfield 9, 3) := by decide +kernel
theorem d_Pl_copyFrom_9 : decode b_Pl_copyFrom 9 = .ok (.putfield 9, 3) := by decide +kernel
theorem d_Pl_copyFrom_12 : decode b_Pl_copyFrom 12 = .ok (.aload_n 0, 1) := by decide +kernel
theorem d_Pl_copyFrom_13 : decode b_Pl_copyFrom 13 = .ok (.aload_n 1, 1) := by decide +kernel
theorem d_Pl_copyFrom_14 : decode b_Pl_copyFrom 14 = .ok (.getfield 15, 3) := by decide +kernel
theorem d_Pl_copyFrom_17 : decode b_Pl_copyFrom 17 = .ok (.putfield 15, 3) := by decide +kernel
theorem d_Pl_copyFrom_20 : decode b_Pl_copyFrom 20 = .ok (.aload_n 0, 1) := by decide +kernel
theorem d_Pl_copyFrom_21 : decode b_Pl_copyFrom 21 = .ok (.aload_n 1, 1) := by decide +kernel
theorem d_Pl_copyFrom_22 : decode b_Pl_copyFrom 22 = .ok (.getfield 18, 3) := by decide +kernel
theorem d_Pl_copyFrom_25 : decode b_Pl_copyFrom 25 = .ok (.putfield 18, 3) := by decide +kernel
theorem d_Pl_copyFrom_28 : decode b_Pl_copyFrom 28 = .ok (.iconst 0, 1) := by decide +kernel
theorem d_Pl_copyFrom_29 : decode b_Pl_copyFrom 29 = .ok (.istore_n 2, 1) := by decide +kernel
theorem d_Pl_copyFrom_30 : decode b_Pl_copyFrom 30 = .ok (.iload_n 2, 1) := by decide +kernel
theorem d_Pl_copyFrom_31 : decode b_Pl_copyFrom 31 = .ok (.aload_n 1, 1) := by decide +kernel
theorem d_Pl_copyFrom_32 : decode b_Pl_copyFrom 32 = .ok (.getfield 21, 3) := by decide +kernel
theorem d_Pl_copyFrom_35 : decode b_Pl_copyFrom 35 = .ok (.if_icmp .ge 25, 3) := by decide +kernel
theorem d_Pl_copyFrom_38 : decode b_Pl_copyFrom 38 = .ok (.aload_n 0, 1) := by decide +kernel
theorem d_Pl_copyFrom_39 : decode b_Pl_copyFrom 39 = .ok (.aload_n 1, 1) := by decide +kernel
theorem d_Pl_copyFrom_40 : decode b_Pl_copyFrom 40 = .ok (.getfield 27, 3) := by decide +kernel
theorem d_Pl_copyFrom_43 : decode b_Pl_copyFrom 43 = .ok (.iload_n 2, 1) := by decide +kernel
theorem d_Pl_copyFrom_44 : decode b_Pl_copyFrom 44 = .ok (.iaload, 1) := by decide +kernel
theorem d_Pl_copyFrom_45 : decode b_Pl_copyFrom 45 = .ok (.aload_n 1, 1) := by decide +kernel
theorem d_Pl_copyFrom_46 : decode b_Pl_copyFrom 46 = .ok (.getfield 31, 3) := by decide +kernel
theorem d_Pl_copyFrom_49 : decode b_Pl_copyFrom 49 = .ok (.iload_n 2, 1) := by decide +kernel
theorem d_Pl_copyFrom_50 : decode b_Pl_copyFrom 50 = .ok (.iaload, 1) := by decide +kernel
theorem d_Pl_copyFrom_51 : decode b_Pl_copyFrom 51 = .ok (.invokevirtual 48, 3) := by decide +kernel
theorem d_Pl_copyFrom_54 : decode b_Pl_copyFrom 54 = .ok (.iinc 2 1, 3) := by decide +kernel
theorem d_Pl_copyFrom_57 : decode b_Pl_copyFrom 57 = .ok (.goto (-27), 3) := by decide +kernel
theorem d_Pl_copyFrom_60 : decode b_Pl_copyFrom 60 = .ok (.iconst 0, 1) := by decide +kernel
theorem d_Pl_copyFrom_61 : decode b_Pl_copyFrom 61 = .ok (.istore_n 2, 1) := by decide +kernel
theorem d_Pl_copyFrom_62 : decode b_Pl_copyFrom 62 = .ok (.iload_n 2, 1) := by decide +kernel
theorem d_Pl_copyFrom_63 : decode b_Pl_copyFrom 63 = .ok (.aload_n 1, 1) := by decide +kernel
theorem d_Pl_copyFrom_64 : decode b_Pl_copyFrom 64 = .ok (.getfield 24, 3) := by decide +kernel
theorem d_Pl_copyFrom_67 : decode b_Pl_copyFrom 67 = .ok (.if_icmp .ge 26, 3) := by decide +kernel
theorem d_Pl_copyFrom_70 : decode b_Pl_copyFrom 70 = .ok (.aload_n 0, 1) := by decide +kernel
theorem d_Pl_copyFrom_71 : decode b_Pl_copyFrom 71 = .ok (.aload_n 1, 1) := by decide +kernel
theorem d_Pl_copyFrom_72 : decode b_Pl_copyFrom 72 = .ok (.getfield 34, 3) := by decide +kernel
theorem d_Pl_copyFrom_75 : decode b_Pl_copyFrom 75 = .ok (.iload_n 2, 1) := by decide +kernel
theorem d_Pl_copyFrom_76 : decode b_Pl_copyFrom 76 = .ok (.iaload, 1) := by decide +kernel
theorem d_Pl_copyFrom_77 : decode b_Pl_copyFrom 77 = .ok (.aload_n 1, 1) := by decide +kernel
theorem d_Pl_copyFrom_78 : decode b_Pl_copyFrom 78 = .ok (.getfield 37, 3) := by decide +kernel
theorem d_Pl_copyFrom_81 : decode b_Pl_copyFrom 81 = .ok (.iload_n 2, 1) := by decide +kernel
theorem d_Pl_copyFrom_82 : decode b_Pl_copyFrom 82 = .ok (.iaload, 1) := by decide +kernel
theorem d_Pl_copyFrom_83 : decode b_Pl_copyFrom 83 = .ok (.invokevirtual 52, 3) := by decide +kernel
theorem d_Pl_copyFrom_86 : decode b_Pl_copyFrom 86 = .ok (.pop, 1) := by decide +kernel
theorem d_Pl_copyFrom_87 : decode b_Pl_copyFrom 87 = .ok (.iinc 2 1, 3) := by decide +kernel
theorem d_Pl_copyFrom_90 : decode b_Pl_copyFrom 90 = .ok (.goto (-28), 3) := by decide +kernel
theorem d_Pl_copyFrom_93 : decode b_Pl_copyFrom 93 = .ok (.return_, 1) := by decide +kernel
abbrev b_Nd_forget : ByteArray := prog_4_method_3_code
abbrev y_Nd_forget : MethodName := ⟨"TimeFlood$Node", "forget", "()V"⟩
theorem m_Nd_forget : MWV y_Nd_forget b_Nd_forget 1 none 0 := ⟨wd_354, wd_355, wd_6, wd_356, by decide, by decide, by decide +kernel⟩
theorem d_Nd_forget_0 : decode b_Nd_forget 0 = .ok (.aload_n 0, 1) := by decide +kernel
theorem d_Nd_forget_1 : decode b_Nd_forget 1 = .ok (.bipush (-9), 2) := by decide +kernel
theorem d_Nd_forget_3 : decode b_Nd_forget 3 = .ok (.putfield 19, 3) := by decide +kernel
theorem d_Nd_forget_6 : decode b_Nd_forget 6 = .ok (.aload_n 0, 1) := by decide +kernel
theorem d_Nd_forget_7 : decode b_Nd_forget 7 = .ok (.iconst 0, 1) := by decide +kernel
theorem d_Nd_forget_8 : decode b_Nd_forget 8 = .ok (.putfield 22, 3) := by decide +kernel
theorem d_Nd_forget_11 : decode b_Nd_forget 11 = .ok (.aload_n 0, 1) := by decide +kernel
theorem d_Nd_forget_12 : decode b_Nd_forget 12 = .ok (.iconst 0, 1) := by decide +kernel
theorem d_Nd_forget_13 : decode b_Nd_forget 13 = .ok (.putfield 25, 3) := by decide +kernel
theorem d_Nd_forget_16 : decode b_Nd_forget 16 = .ok (.aload_n 0, 1) := by decide +kernel
theorem d_Nd_forget_17 : decode b_Nd_forget 17 = .ok (.iconst 0, 1) := by decide +kernel
theorem d_Nd_forget_18 : decode b_Nd_forget 18 = .ok (.putfield 28, 3) := by decide +kernel
theorem d_Nd_forget_21 : decode b_Nd_forget 21 = .ok (.aload_n 0, 1) := by decide +kernel
theorem d_Nd_forget_22 : decode b_Nd_forget 22 = .ok (.iconst 0, 1) := by decide +kernel
theorem d_Nd_forget_23 : decode b_Nd_forget 23 = .ok (.putfield 31, 3) := by decide +kernel
theorem d_Nd_forget_26 : decode b_Nd_forget 26 = .ok (.return_, 1) := by decide +kernel
abbrev b_St_begin : ByteArray := prog_8_method_3_code
abbrev y_St_begin : MethodName := ⟨"TimeFlood$State", "begin", "(LTimeFlood$Plan;)V"⟩
theorem m_St_begin : MWV y_St_begin b_St_begin 3 none 1 := ⟨wd_350, wd_351, wd_5, wd_352, by decide, by decide, by decide +kernel⟩
theorem d_St_begin_0 : decode b_St_begin 0 = .ok (.aload_n 0, 1) := by decide +kernel
theorem d_St_begin_1 : decode b_St_begin 1 = .ok (.iconst 0, 1) := by decide +kernel
theorem d_St_begin_2 : decode b_St_begin 2 = .ok (.putfield 9, 3) := by decide +kernel
theorem d_St_begin_5 : decode b_St_begin 5 = .ok (.aload_n 0, 1) := by decide +kernel
theorem d_St_begin_6 : decode b_St_begin 6 = .ok (.iconst 0, 1) := by decide +kernel
theorem d_St_begin_7 : decode b_St_begin 7 = .ok (.putfield 15, 3) := by decide +kernel
theorem d_St_begin_10 : decode b_St_begin 10 = .ok (.iconst 0, 1) := by decide +kernel
theorem d_St_begin_11 : decode b_St_begin 11 = .ok (.istore_n 2, 1) := by decide +kernel
theorem d_St_begin_12 : decode b_St_begin 12 = .ok (.iload_n 2, 1) := by decide +kernel
theorem d_St_begin_13 : decode b_St_begin 13 = .ok (.iconst 5, 1) := by decide +kernel
theorem d_St_begin_14 : decode b_St_begin 14 = .ok (.if_icmp .ge 55, 3) := by decide +kernel
theorem d_St_begin_17 : decode b_St_begin 17 = .ok (.aload_n 0, 1) := by decide +kernel
theorem d_St_begin_18 : decode b_St_begin 18 = .ok (.getfield 20, 3) := by decide +kernel
theorem d_St_begin_21 : decode b_St_begin 21 = .ok (.iload_n 2, 1) := by decide +kernel
theorem d_St_begin_22 : decode b_St_begin 22 = .ok (.aaload, 1) := by decide +kernel
theorem d_St_begin_23 : decode b_St_begin 23 = .ok (.invokevirtual 29, 3) := by decide +kernel
theorem d_St_begin_26 : decode b_St_begin 26 = .ok (.aload_n 0, 1) := by decide +kernel
theorem d_St_begin_27 : decode b_St_begin 27 = .ok (.getfield 20, 3) := by decide +kernel
theorem d_St_begin_30 : decode b_St_begin 30 = .ok (.iload_n 2, 1) := by decide +kernel
theorem d_St_begin_31 : decode b_St_begin 31 = .ok (.aaload, 1) := by decide +kernel
theorem d_St_begin_32 : decode b_St_begin 32 = .ok (.iload_n 2, 1) := by decide +kernel
theorem d_St_begin_33 : decode b_St_begin 33 = .ok (.aload_n 1, 1) := by decide +kernel
theorem d_St_begin_34 : decode b_St_begin 34 = .ok (.getfield 32, 3) := by decide +kernel
theorem d_St_begin_37 : decode b_St_begin 37 = .ok (.if_icmp .ge 7, 3) := by decide +kernel
theorem d_St_begin_40 : decode b_St_begin 40 = .ok (.iconst 1, 1) := by decide +kernel
theorem d_St_begin_41 : decode b_St_begin 41 = .ok (.goto 4, 3) := by decide +kernel
theorem d_St_begin_44 : decode b_St_begin 44 = .ok (.iconst 0, 1) := by decide +kernel
theorem d_St_begin_45 : decode b_St_begin 45 = .ok (.putfield 37, 3) := by decide +kernel
theorem d_St_begin_48 : decode b_St_begin 48 = .ok (.aload_n 0, 1) := by decide +kernel
theorem d_St_begin_49 : decode b_St_begin 49 = .ok (.getfield 20, 3) := by decide +kernel
theorem d_St_begin_52 : decode b_St_begin 52 = .ok (.iload_n 2, 1) := by decide +kernel
theorem d_St_begin_53 : decode b_St_begin 53 = .ok (.aaload, 1) := by decide +kernel
theorem d_St_begin_54 : decode b_St_begin 54 = .ok (.aload_n 1, 1) := by decide +kernel
theorem d_St_begin_55 : decode b_St_begin 55 = .ok (.getfield 41, 3) := by decide +kernel
theorem d_St_begin_58 : decode b_St_begin 58 = .ok (.iload_n 2, 1) := by decide +kernel
theorem d_St_begin_59 : decode b_St_begin 59 = .ok (.iaload, 1) := by decide +kernel
theorem d_St_begin_60 : decode b_St_begin 60 = .ok (.putfield 45, 3) := by decide +kernel
theorem d_St_begin_63 : decode b_St_begin 63 = .ok (.iinc 2 1, 3) := by decide +kernel
theorem d_St_begin_66 : decode b_St_begin 66 = .ok (.goto (-54), 3) := by decide +kernel
theorem d_St_begin_69 : decode b_St_begin 69 = .ok (.return_, 1) := by decide +kernel
abbrev b_Jr_clear : ByteArray := prog_3_method_2_code
abbrev y_Jr_clear : MethodName := ⟨"TimeFlood$Journal", "clear", "()V"⟩
theorem m_Jr_clear : MWV y_Jr_clear b_Jr_clear 1 none 0 := ⟨wd_358, wd_359, wd_7, wd_360, by decide, by decide, by decide +kernel⟩
theorem d_Jr_clear_0 : decode b_Jr_clear 0 = .ok (.aload_n 0, 1) := by decide +kernel
theorem d_Jr_clear_1 : decode b_Jr_clear 1 = .ok (.iconst 0, 1) := by decide +kernel
theorem d_Jr_clear_2 : decode b_Jr_clear 2 = .ok (.putfield 21, 3) := by decide +kernel
theorem d_Jr_clear_5 : decode b_Jr_clear 5 = .ok (.return_, 1) := by decide +kernel
abbrev b_TF_net : ByteArray := prog_1_method_5_code
abbrev y_TF_net : MethodName := ⟨"TimeFlood", "net", "()I"⟩
theorem m_TF_net : MWV y_TF_net b_TF_net 2 (Option.some FieldType.int) 0 := ⟨wd_339, wd_340, wd_1, wd_341, by decide, by decide, by decide +kernel⟩
theorem d_TF_net_0 : decode b_TF_net 0 = .ok (.aload_n 0, 1) := by decide +kernel
theorem d_TF_net_1 : decode b_TF_net 1 = .ok (.getfield 20, 3) := by decide +kernel
theorem d_TF_net_4 : decode b_TF_net 4 = .ok (.aload_n 0, 1) := by decide +kernel
theorem d_TF_net_5 : decode b_TF_net 5 = .ok (.getfield 9, 3) := by decide +kernel
theorem d_TF_net_8 : decode b_TF_net 8 = .ok (.aload_n 0, 1) := by decide +kernel
theorem d_TF_net_9 : decode b_TF_net 9 = .ok (.getfield 13, 3) := by decide +kernel
theorem d_TF_net_12 : decode b_TF_net 12 = .ok (.invokevirtual 72, 3) := by decide +kernel
theorem d_TF_net_15 : decode b_TF_net 15 = .ok (.bipush (-9), 2) := by decide +kernel
theorem d_TF_net_17 : decode b_TF_net 17 = .ok (.if_icmp .eq 6, 3) := by decide +kernel
theorem d_TF_net_20 : decode b_TF_net 20 = .ok (.bipush (-3), 2) := by decide +kernel
theorem d_TF_net_22 : decode b_TF_net 22 = .ok (.ireturn, 1) := by decide +kernel
theorem d_TF_net_23 : decode b_TF_net 23 = .ok (.aload_n 0, 1) := by decide +kernel
theorem d_TF_net_24 : decode b_TF_net 24 = .ok (.getfield 35, 3) := by decide +kernel
theorem d_TF_net_27 : decode b_TF_net 27 = .ok (.aload_n 0, 1) := by decide +kernel
theorem d_TF_net_28 : decode b_TF_net 28 = .ok (.getfield 20, 3) := by decide +kernel
theorem d_TF_net_31 : decode b_TF_net 31 = .ok (.getfield 76, 3) := by decide +kernel
theorem d_TF_net_34 : decode b_TF_net 34 = .ok (.invokevirtual 79, 3) := by decide +kernel
theorem d_TF_net_37 : decode b_TF_net 37 = .ok (.aload_n 0, 1) := by decide +kernel
theorem d_TF_net_38 : decode b_TF_net 38 = .ok (.getfield 39, 3) := by decide +kernel
theorem d_TF_net_41 : decode b_TF_net 41 = .ok (.aload_n 0, 1) := by decide +kernel
theorem d_TF_net_42 : decode b_TF_net 42 = .ok (.getfield 35, 3) := by decide +kernel
theorem d_TF_net_45 : decode b_TF_net 45 = .ok (.invokevirtual 85, 3) := by decide +kernel
theorem d_TF_net_48 : decode b_TF_net 48 = .ok (.aload_n 0, 1) := by decide +kernel
theorem d_TF_net_49 : decode b_TF_net 49 = .ok (.getfield 49, 3) := by decide +kernel
theorem d_TF_net_52 : decode b_TF_net 52 = .ok (.invokevirtual 88, 3) := by decide +kernel
theorem d_TF_net_55 : decode b_TF_net 55 = .ok (.iconst 0, 1) := by decide +kernel
theorem d_TF_net_56 : decode b_TF_net 56 = .ok (.istore_n 1, 1) := by decide +kernel
theorem d_TF_net_57 : decode b_TF_net 57 = .ok (.iload_n 1, 1) := by decide +kernel
theorem d_TF_net_58 : decode b_TF_net 58 = .ok (.iconst 2, 1) := by decide +kernel
theorem d_TF_net_59 : decode b_TF_net 59 = .ok (.if_icmp .ge 16, 3) := by decide +kernel
theorem d_TF_net_62 : decode b_TF_net 62 = .ok (.aload_n 0, 1) := by decide +kernel
theorem d_TF_net_63 : decode b_TF_net 63 = .ok (.getfield 57, 3) := by decide +kernel
theorem d_TF_net_66 : decode b_TF_net 66 = .ok (.iload_n 1, 1) := by decide +kernel
theorem d_TF_net_67 : decode b_TF_net 67 = .ok (.iconst 0, 1) := by decide +kernel
theorem d_TF_net_68 : decode b_TF_net 68 = .ok (.bastore, 1) := by decide +kernel
theorem d_TF_net_69 : decode b_TF_net 69 = .ok (.iinc 1 1, 3) := by decide +kernel
theorem d_TF_net_72 : decode b_TF_net 72 = .ok (.goto (-15), 3) := by decide +kernel
theorem d_TF_net_75 : decode b_TF_net 75 = .ok (.aload_n 0, 1) := by decide +kernel
theorem d_TF_net_76 : decode b_TF_net 76 = .ok (.getfield 35, 3) := by decide +kernel
theorem d_TF_net_79 : decode b_TF_net 79 = .ok (.getfield 91, 3) := by decide +kernel
theorem d_TF_net_82 : decode b_TF_net 82 = .ok (.ireturn, 1) := by decide +kernel
abbrev b_St_onSet : ByteArray := prog_8_method_8_code
abbrev y_St_onSet : MethodName := ⟨"TimeFlood$State", "onSet", "()I"⟩
theorem m_St_onSet : MWV y_St_onSet b_St_onSet 3 (Option.some FieldType.int) 0 := ⟨wd_366, wd_367, wd_5, wd_368, by decide, by decide, by decide +kernel⟩
theorem d_St_onSet_0 : decode b_St_onSet 0 = .ok (.iconst 0, 1) := by decide +kernel
theorem d_St_onSet_1 : decode b_St_onSet 1 = .ok (.istore_n 1, 1) := by decide +kernel
theorem d_St_onSet_2 : decode b_St_onSet 2 = .ok (.iconst 0, 1) := by decide +kernel
theorem d_St_onSet_3 : decode b_St_onSet 3 = .ok (.istore_n 2, 1) := by decide +kernel
theorem d_St_onSet_4 : decode b_St_onSet 4 = .ok (.iload_n 2, 1) := by decide +kernel
theorem d_St_onSet_5 : decode b_St_onSet 5 = .ok (.iconst 5, 1) := by decide +kernel
theorem d_St_onSet_6 : decode b_St_onSet 6 = .ok (.if_icmp .ge 27, 3) := by decide +kernel
theorem d_St_onSet_9 : decode b_St_onSet 9 = .ok (.aload_n 0, 1) := by decide +kernel
theorem d_St_onSet_10 : decode b_St_onSet 10 = .ok (.getfield 20, 3) := by decide +kernel
theorem d_St_onSet_13 : decode b_St_onSet 13 = .ok (.iload_n 2, 1) := by decide +kernel
theorem d_St_onSet_14 : decode b_St_onSet 14 = .ok (.aaload, 1) := by decide +kernel
theorem d_St_onSet_15 : decode b_St_onSet 15 = .ok (.getfield 37, 3) := by decide +kernel
theorem d_St_onSet_18 : decode b_St_onSet 18 = .ok (.ifCond .eq 9, 3) := by decide +kernel
theorem d_St_onSet_21 : decode b_St_onSet 21 = .ok (.iload_n 1, 1) := by decide +kernel
theorem d_St_onSet_22 : decode b_St_onSet 22 = .ok (.iconst 1, 1) := by decide +kernel
theorem d_St_onSet_23 : decode b_St_onSet 23 = .ok (.iload_n 2, 1) := by decide +kernel
theorem d_St_onSet_24 : decode b_St_onSet 24 = .ok (.ishl, 1) := by decide +kernel
theorem d_St_onSet_25 : decode b_St_onSet 25 = .ok (.ior, 1) := by decide +kernel
theorem d_St_onSet_26 : decode b_St_onSet 26 = .ok (.istore_n 1, 1) := by decide +kernel
theorem d_St_onSet_27 : decode b_St_onSet 27 = .ok (.iinc 2 1, 3) := by decide +kernel
theorem d_St_onSet_30 : decode b_St_onSet 30 = .ok (.goto (-26), 3) := by decide +kernel
theorem d_St_onSet_33 : decode b_St_onSet 33 = .ok (.iload_n 1, 1) := by decide +kernel
theorem d_St_onSet_34 : decode b_St_onSet 34 = .ok (.ireturn, 1) := by decide +kernel
abbrev b_St_shownRoot : ByteArray := prog_8_method_7_code
abbrev y_St_shownRoot : MethodName := ⟨"TimeFlood$State", "shownRoot", "(I)I"⟩
theorem m_St_shownRoot : MWV y_St_shownRoot b_St_shownRoot 2 (Option.some FieldType.int) 1 := ⟨wd_374, wd_375, wd_5, wd_376, by decide, by decide, by decide +kernel⟩
theorem d_St_shownRoot_0 : decode b_St_shownRoot 0 = .ok (.aload_n 0, 1) := by decide +kernel
theorem d_St_shownRoot_1 : decode b_St_shownRoot 1 = .ok (.getfield 20, 3) := by decide +kernel
theorem d_St_shownRoot_4 : decode b_St_shownRoot 4 = .ok (.iload_n 1, 1) := by decide +kernel
theorem d_St_shownRoot_5 : decode b_St_shownRoot 5 = .ok (.aaload, 1) := by decide +kernel
theorem d_St_shownRoot_6 : decode b_St_shownRoot 6 = .ok (.getfield 37, 3) := by decide +kernel
theorem d_St_shownRoot_9 : decode b_St_shownRoot 9 = .ok (.ifCond .eq 15, 3) := by decide +kernel
theorem d_St_shownRoot_12 : decode b_St_shownRoot 12 = .ok (.aload_n 0, 1) := by decide +kernel
theorem d_St_shownRoot_13 : decode b_St_shownRoot 13 = .ok (.getfield 20, 3) := by decide +kernel
theorem d_St_shownRoot_16 : decode b_St_shownRoot 16 = .ok (.iload_n 1, 1) := by decide +kernel
theorem d_St_shownRoot_17 : decode b_St_shownRoot 17 = .ok (.aaload, 1) := by decide +kernel
theorem d_St_shownRoot_18 : decode b_St_shownRoot 18 = .ok (.getfield 48, 3) := by decide +kernel
theorem d_St_shownRoot_21 : decode b_St_shownRoot 21 = .ok (.goto 5, 3) := by decide +kernel
theorem d_St_shownRoot_24 : decode b_St_shownRoot 24 = .ok (.bipush (-9), 2) := by decide +kernel
theorem d_St_shownRoot_26 : decode b_St_shownRoot 26 = .ok (.ireturn, 1) := by decide +kernel
abbrev b_St_ownRootSet : ByteArray := prog_8_method_9_code
abbrev y_St_ownRootSet : MethodName := ⟨"TimeFlood$State", "ownRootSet", "()I"⟩
theorem m_St_ownRootSet : MWV y_St_ownRootSet b_St_ownRootSet 3 (Option.some FieldType.int) 0 := ⟨wd_370, wd_371, wd_5, wd_372, by decide, by decide, by decide +kernel⟩
theorem d_St_ownRootSet_0 : decode b_St_ownRootSet 0 = .ok (.iconst 0, 1) := by decide +kernel
theorem d_St_ownRootSet_1 : decode b_St_ownRootSet 1 = .ok (.istore_n 1, 1) := by decide +kernel
theorem d_St_ownRootSet_2 : decode b_St_ownRootSet 2 = .ok (.iconst 0, 1) := by decide +kernel
theorem d_St_ownRootSet_3 : decode b_St_ownRootSet 3 = .ok (.istore_n 2, 1) := by decide +kernel
theorem d_St_ownRootSet_4 : decode b_St_ownRootSet 4 = .ok (.iload_n 2, 1) := by decide +kernel
theorem d_St_ownRootSet_5 : decode b_St_ownRootSet 5 = .ok (.iconst 5, 1) := by decide +kernel
theorem d_St_ownRootSet_6 : decode b_St_ownRootSet 6 = .ok (.if_icmp .ge 24, 3) := by decide +kernel
theorem d_St_ownRootSet_9 : decode b_St_ownRootSet 9 = .ok (.aload_n 0, 1) := by decide +kernel
theorem d_St_ownRootSet_10 : decode b_St_ownRootSet 10 = .ok (.iload_n 2, 1) := by decide +kernel
theorem d_St_ownRootSet_11 : decode b_St_ownRootSet 11 = .ok (.invokevirtual 51, 3) := by decide +kernel
theorem d_St_ownRootSet_14 : decode b_St_ownRootSet 14 = .ok (.iload_n 2, 1) := by decide +kernel
theorem d_St_ownRootSet_15 : decode b_St_ownRootSet 15 = .ok (.if_icmp .ne 9, 3) := by decide +kernel
theorem d_St_ownRootSet_18 : decode b_St_ownRootSet 18 = .ok (.iload_n 1, 1) := by decide +kernel
theorem d_St_ownRootSet_19 : decode b_St_ownRootSet 19 = .ok (.iconst 1, 1) := by decide +kernel
theorem d_St_ownRootSet_20 : decode b_St_ownRootSet 20 = .ok (.iload_n 2, 1) := by decide +kernel
theorem d_St_ownRootSet_21 : decode b_St_ownRootSet 21 = .ok (.ishl, 1) := by decide +kernel
theorem d_St_ownRootSet_22 : decode b_St_ownRootSet 22 = .ok (.ior, 1) := by decide +kernel
theorem d_St_ownRootSet_23 : decode b_St_ownRootSet 23 = .ok (.istore_n 1, 1) := by decide +kernel
theorem d_St_ownRootSet_24 : decode b_St_ownRootSet 24 = .ok (.iinc 2 1, 3) := by decide +kernel
theorem d_St_ownRootSet_27 : decode b_St_ownRootSet 27 = .ok (.goto (-23), 3) := by decide +kernel
theorem d_St_ownRootSet_30 : decode b_St_ownRootSet 30 = .ok (.iload_n 1, 1) := by decide +kernel
theorem d_St_ownRootSet_31 : decode b_St_ownRootSet 31 = .ok (.ireturn, 1) := by decide +kernel
abbrev b_Mt_floorDivI : ByteArray := prog_12_method_47_code
abbrev y_Mt_floorDivI : MethodName := ⟨"java/lang/Math", "floorDiv", "(II)I"⟩
theorem m_Mt_floorDivI : MWS y_Mt_floorDivI b_Mt_floorDivI 3 (Option.some FieldType.int) 2 := ⟨wd_395, wd_10, wd_396, by decide, by decide, by decide +kernel⟩
theorem d_Mt_floorDivI_0 : decode b_Mt_floorDivI 0 = .ok (.iload_n 0, 1) := by decide +kernel
theorem d_Mt_floorDivI_1 : decode b_Mt_floorDivI 1 = .ok (.iload_n 1, 1) := by decide +kernel
theorem d_Mt_floorDivI_2 : decode b_Mt_floorDivI 2 = .ok (.idiv, 1) := by decide +kernel
theorem d_Mt_floorDivI_3 : decode b_Mt_floorDivI 3 = .ok (.istore_n 2, 1) := by decide +kernel
theorem d_Mt_floorDivI_4 : decode b_Mt_floorDivI 4 = .ok (.iload_n 0, 1) := by decide +kernel
theorem d_Mt_floorDivI_5 : decode b_Mt_floorDivI 5 = .ok (.iload_n 1, 1) := by decide +kernel
theorem d_Mt_floorDivI_6 : decode b_Mt_floorDivI 6 = .ok (.ixor, 1) := by decide +kernel
theorem d_Mt_floorDivI_7 : decode b_Mt_floorDivI 7 = .ok (.ifCond .ge 14, 3) := by decide +kernel
theorem d_Mt_floorDivI_10 : decode b_Mt_floorDivI 10 = .ok (.iload_n 2, 1) := by decide +kernel
theorem d_Mt_floorDivI_11 : decode b_Mt_floorDivI 11 = .ok (.iload_n 1, 1) := by decide +kernel
theorem d_Mt_floorDivI_12 : decode b_Mt_floorDivI 12 = .ok (.imul, 1) := by decide +kernel
theorem d_Mt_floorDivI_13 : decode b_Mt_floorDivI 13 = .ok (.iload_n 0, 1) := by decide +kernel
theorem d_Mt_floorDivI_14 : decode b_Mt_floorDivI 14 = .ok (.if_icmp .eq 7, 3) := by decide +kernel
theorem d_Mt_floorDivI_17 : decode b_Mt_floorDivI 17 = .ok (.iload_n 2, 1) := by decide +kernel
theorem d_Mt_floorDivI_18 : decode b_Mt_floorDivI 18 = .ok (.iconst 1, 1) := by decide +kernel
theorem d_Mt_floorDivI_19 : decode b_Mt_floorDivI 19 = .ok (.isub, 1) := by decide +kernel
theorem d_Mt_floorDivI_20 : decode b_Mt_floorDivI 20 = .ok (.ireturn, 1) := by decide +kernel
theorem d_Mt_floorDivI_21 : decode b_Mt_floorDivI 21 = .ok (.iload_n 2, 1) := by decide +kernel
theorem d_Mt_floorDivI_22 : decode b_Mt_floorDivI 22 = .ok (.ireturn, 1) := by decide +kernel
abbrev b_Mt_floorModI : ByteArray := prog_12_method_50_code
abbrev y_Mt_floorModI : MethodName := ⟨"java/lang/Math", "floorMod", "(II)I"⟩
theorem m_Mt_floorModI : MWS y_Mt_floorModI b_Mt_floorModI 3 (Option.some FieldType.int) 2 := ⟨wd_398, wd_10, wd_399, by decide, by decide, by decide +kernel⟩
theorem d_Mt_floorModI_0 : decode b_Mt_floorModI 0 = .ok (.iload_n 0, 1) := by decide +kernel
theorem d_Mt_floorModI_1 : decode b_Mt_floorModI 1 = .ok (.iload_n 1, 1) := by decide +kernel
theorem d_Mt_floorModI_2 : decode b_Mt_floorModI 2 = .ok (.irem, 1) := by decide +kernel
theorem d_Mt_floorModI_3 : decode b_Mt_floorModI 3 = .ok (.istore_n 2, 1) := by decide +kernel
theorem d_Mt_floorModI_4 : decode b_Mt_floorModI 4 = .ok (.iload_n 0, 1) := by decide +kernel
theorem d_Mt_floorModI_5 : decode b_Mt_floorModI 5 = .ok (.iload_n 1, 1) := by decide +kernel
theorem d_Mt_floorModI_6 : decode b_Mt_floorModI 6 = .ok (.ixor, 1) := by decide +kernel
theorem d_Mt_floorModI_7 : decode b_Mt_floorModI 7 = .ok (.ifCond .ge 11, 3) := by decide +kernel
theorem d_Mt_floorModI_10 : decode b_Mt_floorModI 10 = .ok (.iload_n 2, 1) := by decide +kernel
theorem d_Mt_floorModI_11 : decode b_Mt_floorModI 11 = .ok (.ifCond .eq 7, 3) := by decide +kernel
theorem d_Mt_floorModI_14 : decode b_Mt_floorModI 14 = .ok (.iload_n 2, 1) := by decide +kernel
theorem d_Mt_floorModI_15 : decode b_Mt_floorModI 15 = .ok (.iload_n 1, 1) := by decide +kernel
theorem d_Mt_floorModI_16 : decode b_Mt_floorModI 16 = .ok (.iadd, 1) := by decide +kernel
theorem d_Mt_floorModI_17 : decode b_Mt_floorModI 17 = .ok (.ireturn, 1) := by decide +kernel
theorem d_Mt_floorModI_18 : decode b_Mt_floorModI 18 = .ok (.iload_n 2, 1) := by decide +kernel
theorem d_Mt_floorModI_19 : decode b_Mt_floorModI 19 = .ok (.ireturn, 1) := by decide +kernel
abbrev b_Fl_clock : ByteArray := prog_2_method_6_code
abbrev y_Fl_clock : MethodName := ⟨"TimeFlood$Flood", "clock", "(LTimeFlood$State;I)I"⟩
theorem m_Fl_clock : MWV y_Fl_clock b_Fl_clock 4 (Option.some FieldType.int) 2 := ⟨wd_391, wd_392, wd_4, wd_393, by decide, by decide, by decide +kernel⟩
theorem d_Fl_clock_0 : decode b_Fl_clock 0 = .ok (.aload_n 1, 1) := by decide +kernel
theorem d_Fl_clock_1 : decode b_Fl_clock 1 = .ok (.getfield 36, 3) := by decide +kernel
theorem d_Fl_clock_4 : decode b_Fl_clock 4 = .ok (.aload_n 1, 1) := by decide +kernel
theorem d_Fl_clock_5 : decode b_Fl_clock 5 = .ok (.getfield 48, 3) := by decide +kernel
theorem d_Fl_clock_8 : decode b_Fl_clock 8 = .ok (.iload_n 2, 1) := by decide +kernel
theorem d_Fl_clock_9 : decode b_Fl_clock 9 = .ok (.aaload, 1) := by decide +kernel
theorem d_Fl_clock_10 : decode b_Fl_clock 10 = .ok (.getfield 113, 3) := by decide +kernel
theorem d_Fl_clock_13 : decode b_Fl_clock 13 = .ok (.imul, 1) := by decide +kernel
theorem d_Fl_clock_14 : decode b_Fl_clock 14 = .ok (.bipush 64, 2) := by decide +kernel
theorem d_Fl_clock_16 : decode b_Fl_clock 16 = .ok (.invokestatic 116, 3) := by decide +kernel
theorem d_Fl_clock_19 : decode b_Fl_clock 19 = .ok (.istore_n 3, 1) := by decide +kernel
theorem d_Fl_clock_20 : decode b_Fl_clock 20 = .ok (.bipush 16, 2) := by decide +kernel
theorem d_Fl_clock_22 : decode b_Fl_clock 22 = .ok (.aload_n 0, 1) := by decide +kernel
theorem d_Fl_clock_23 : decode b_Fl_clock 23 = .ok (.getfield 12, 3) := by decide +kernel
theorem d_Fl_clock_26 : decode b_Fl_clock 26 = .ok (.getfield 121, 3) := by decide +kernel
theorem d_Fl_clock_29 : decode b_Fl_clock 29 = .ok (.iload_n 2, 1) := by decide +kernel
theorem d_Fl_clock_30 : decode b_Fl_clock 30 = .ok (.iaload, 1) := by decide +kernel
theorem d_Fl_clock_31 : decode b_Fl_clock 31 = .ok (.imul, 1) := by decide +kernel
theorem d_Fl_clock_32 : decode b_Fl_clock 32 = .ok (.aload_n 1, 1) := by decide +kernel
theorem d_Fl_clock_33 : decode b_Fl_clock 33 = .ok (.getfield 36, 3) := by decide +kernel
theorem d_Fl_clock_36 : decode b_Fl_clock 36 = .ok (.iadd, 1) := by decide +kernel
theorem d_Fl_clock_37 : decode b_Fl_clock 37 = .ok (.iload_n 3, 1) := by decide +kernel
theorem d_Fl_clock_38 : decode b_Fl_clock 38 = .ok (.iadd, 1) := by decide +kernel
theorem d_Fl_clock_39 : decode b_Fl_clock 39 = .ok (.sipush 1024, 3) := by decide +kernel
theorem d_Fl_clock_42 : decode b_Fl_clock 42 = .ok (.invokestatic 124, 3) := by decide +kernel
theorem d_Fl_clock_45 : decode b_Fl_clock 45 = .ok (.ireturn, 1) := by decide +kernel
abbrev b_TF_near : ByteArray := prog_1_method_37_code
abbrev y_TF_near : MethodName := ⟨"TimeFlood", "near", "(I)I"⟩
theorem m_TF_near : MWS y_TF_near b_TF_near 2 (Option.some FieldType.int) 1 := ⟨wd_406, wd_1, wd_407, by decide, by decide, by decide +kernel⟩
theorem d_TF_near_0 : decode b_TF_near 0 = .ok (.iload_n 0, 1) := by decide +kernel
theorem d_TF_near_1 : decode b_TF_near 1 = .ok (.sipush 1024, 3) := by decide +kernel
theorem d_TF_near_4 : decode b_TF_near 4 = .ok (.invokestatic 274, 3) := by decide +kernel
theorem d_TF_near_7 : decode b_TF_near 7 = .ok (.istore_n 1, 1) := by decide +kernel
theorem d_TF_near_8 : decode b_TF_near 8 = .ok (.iload_n 1, 1) := by decide +kernel
theorem d_TF_near_9 : decode b_TF_near 9 = .ok (.sipush 512, 3) := by decide +kernel
theorem d_TF_near_12 : decode b_TF_near 12 = .ok (.if_icmp .lt 11, 3) := by decide +kernel
theorem d_TF_near_15 : decode b_TF_near 15 = .ok (.iload_n 1, 1) := by decide +kernel
theorem d_TF_near_16 : decode b_TF_near 16 = .ok (.sipush 1024, 3) := by decide +kernel
theorem d_TF_near_19 : decode b_TF_near 19 = .ok (.isub, 1) := by decide +kernel
theorem d_TF_near_20 : decode b_TF_near 20 = .ok (.goto 4, 3) := by decide +kernel
theorem d_TF_near_23 : decode b_TF_near 23 = .ok (.iload_n 1, 1) := by decide +kernel
theorem d_TF_near_24 : decode b_TF_near 24 = .ok (.ireturn, 1) := by decide +kernel
abbrev b_Mt_floorDivJ : ByteArray := prog_12_method_49_code
abbrev y_Mt_floorDivJ : MethodName := ⟨"java/lang/Math", "floorDiv", "(JJ)J"⟩
theorem m_Mt_floorDivJ : MWS y_Mt_floorDivJ b_Mt_floorDivJ 6 (Option.some FieldType.long) 2 := ⟨wd_410, wd_10, wd_411, by decide, by decide, by decide +kernel⟩
theorem d_Mt_floorDivJ_0 : decode b_Mt_floorDivJ 0 = .ok (.lload_n 0, 1) := by decide +kernel
theorem d_Mt_floorDivJ_1 : decode b_Mt_floorDivJ 1 = .ok (.lload_n 2, 1) := by decide +kernel
theorem d_Mt_floorDivJ_2 : decode b_Mt_floorDivJ 2 = .ok (.ldiv, 1) := by decide +kernel
theorem d_Mt_floorDivJ_3 : decode b_Mt_floorDivJ 3 = .ok (.lstore 4, 2) := by decide +kernel
theorem d_Mt_floorDivJ_5 : decode b_Mt_floorDivJ 5 = .ok (.lload_n 0, 1) := by decide +kernel
theorem d_Mt_floorDivJ_6 : decode b_Mt_floorDivJ 6 = .ok (.lload_n 2, 1) := by decide +kernel
theorem d_Mt_floorDivJ_7 : decode b_Mt_floorDivJ 7 = .ok (.lxor, 1) := by decide +kernel
theorem d_Mt_floorDivJ_8 : decode b_Mt_floorDivJ 8 = .ok (.lconst 0, 1) := by decide +kernel
theorem d_Mt_floorDivJ_9 : decode b_Mt_floorDivJ 9 = .ok (.lcmp, 1) := by decide +kernel
theorem d_Mt_floorDivJ_10 : decode b_Mt_floorDivJ 10 = .ok (.ifCond .ge 17, 3) := by decide +kernel
theorem d_Mt_floorDivJ_13 : decode b_Mt_floorDivJ 13 = .ok (.lload 4, 2) := by decide +kernel
theorem d_Mt_floorDivJ_15 : decode b_Mt_floorDivJ 15 = .ok (.lload_n 2, 1) := by decide +kernel
theorem d_Mt_floorDivJ_16 : decode b_Mt_floorDivJ 16 = .ok (.lmul, 1) := by decide +kernel
theorem d_Mt_floorDivJ_17 : decode b_Mt_floorDivJ 17 = .ok (.lload_n 0, 1) := by decide +kernel
theorem d_Mt_floorDivJ_18 : decode b_Mt_floorDivJ 18 = .ok (.lcmp, 1) := by decide +kernel
theorem d_Mt_floorDivJ_19 : decode b_Mt_floorDivJ 19 = .ok (.ifCond .eq 8, 3) := by decide +kernel
theorem d_Mt_floorDivJ_22 : decode b_Mt_floorDivJ 22 = .ok (.lload 4, 2) := by decide +kernel
theorem d_Mt_floorDivJ_24 : decode b_Mt_floorDivJ 24 = .ok (.lconst 1, 1) := by decide +kernel
theorem d_Mt_floorDivJ_25 : decode b_Mt_floorDivJ 25 = .ok (.lsub, 1) := by decide +kernel
theorem d_Mt_floorDivJ_26 : decode b_Mt_floorDivJ 26 = .ok (.lreturn, 1) := by decide +kernel
theorem d_Mt_floorDivJ_27 : decode b_Mt_floorDivJ 27 = .ok (.lload 4, 2) := by decide +kernel
theorem d_Mt_floorDivJ_29 : decode b_Mt_floorDivJ 29 = .ok (.lreturn, 1) := by decide +kernel
abbrev b_Mt_floorModJ : ByteArray := prog_12_method_52_code
abbrev y_Mt_floorModJ : MethodName := ⟨"java/lang/Math", "floorMod", "(JJ)J"⟩
theorem m_Mt_floorModJ : MWS y_Mt_floorModJ b_Mt_floorModJ 6 (Option.some FieldType.long) 2 := ⟨wd_414, wd_10, wd_415, by decide, by decide, by decide +kernel⟩
theorem d_Mt_floorModJ_0 : decode b_Mt_floorModJ 0 = .ok (.lload_n 0, 1) := by decide +kernel
theorem d_Mt_floorModJ_1 : decode b_Mt_floorModJ 1 = .ok (.lload_n 2, 1) := by decide +kernel
theorem d_Mt_floorModJ_2 : decode b_Mt_floorModJ 2 = .ok (.lrem, 1) := by decide +kernel
theorem d_Mt_floorModJ_3 : decode b_Mt_floorModJ 3 = .ok (.lstore 4, 2) := by decide +kernel
theorem d_Mt_floorModJ_5 : decode b_Mt_floorModJ 5 = .ok (.lload_n 0, 1) := by decide +kernel
theorem d_Mt_floorModJ_6 : decode b_Mt_floorModJ 6 = .ok (.lload_n 2, 1) := by decide +kernel
theorem d_Mt_floorModJ_7 : decode b_Mt_floorModJ 7 = .ok (.lxor, 1) := by decide +kernel
theorem d_Mt_floorModJ_8 : decode b_Mt_floorModJ 8 = .ok (.lconst 0, 1) := by decide +kernel
theorem d_Mt_floorModJ_9 : decode b_Mt_floorModJ 9 = .ok (.lcmp, 1) := by decide +kernel
theorem d_Mt_floorModJ_10 : decode b_Mt_floorModJ 10 = .ok (.ifCond .ge 15, 3) := by decide +kernel
theorem d_Mt_floorModJ_13 : decode b_Mt_floorModJ 13 = .ok (.lload 4, 2) := by decide +kernel
theorem d_Mt_floorModJ_15 : decode b_Mt_floorModJ 15 = .ok (.lconst 0, 1) := by decide +kernel
theorem d_Mt_floorModJ_16 : decode b_Mt_floorModJ 16 = .ok (.lcmp, 1) := by decide +kernel
theorem d_Mt_floorModJ_17 : decode b_Mt_floorModJ 17 = .ok (.ifCond .eq 8, 3) := by decide +kernel
theorem d_Mt_floorModJ_20 : decode b_Mt_floorModJ 20 = .ok (.lload 4, 2) := by decide +kernel
theorem d_Mt_floorModJ_22 : decode b_Mt_floorModJ 22 = .ok (.lload_n 2, 1) := by decide +kernel
theorem d_Mt_floorModJ_23 : decode b_Mt_floorModJ 23 = .ok (.ladd, 1) := by decide +kernel
theorem d_Mt_floorModJ_24 : decode b_Mt_floorModJ 24 = .ok (.lreturn, 1) := by decide +kernel
theorem d_Mt_floorModJ_25 : decode b_Mt_floorModJ 25 = .ok (.lload 4, 2) := by decide +kernel
theorem d_Mt_floorModJ_27 : decode b_Mt_floorModJ 27 = .ok (.lreturn, 1) := by decide +kernel
abbrev b_Nd_estimate : ByteArray := prog_4_method_12_code
abbrev y_Nd_estimate : MethodName := ⟨"TimeFlood$Node", "estimate", "(II)I"⟩
theorem m_Nd_estimate : MWV y_Nd_estimate b_Nd_estimate 20 (Option.some FieldType.int) 2 := ⟨wd_401, wd_402, wd_6, wd_403, by decide, by decide, by decide +kernel⟩
theorem d_Nd_estimate_0 : decode b_Nd_estimate 0 = .ok (.aload_n 0, 1) := by decide +kernel
theorem d_Nd_estimate_1 : decode b_Nd_estimate 1 = .ok (.getfield 19, 3) := by decide +kernel
theorem d_Nd_estimate_4 : decode b_Nd_estimate 4 = .ok (.iload_n 1, 1) := by decide +kernel
theorem d_Nd_estimate_5 : decode b_Nd_estimate 5 = .ok (.if_icmp .ne 5, 3) := by decide +kernel
theorem d_Nd_estimate_8 : decode b_Nd_estimate 8 = .ok (.iload_n 2, 1) := by decide +kernel
theorem d_Nd_estimate_9 : decode b_Nd_estimate 9 = .ok (.ireturn, 1) := by decide +kernel
theorem d_Nd_estimate_10 : decode b_Nd_estimate 10 = .ok (.aload_n 0, 1) := by decide +kernel
theorem d_Nd_estimate_11 : decode b_Nd_estimate 11 = .ok (.getfield 31, 3) := by decide +kernel
theorem d_Nd_estimate_14 : decode b_Nd_estimate 14 = .ok (.iconst 4, 1) := by decide +kernel
theorem d_Nd_estimate_15 : decode b_Nd_estimate 15 = .ok (.invokestatic 67, 3) := by decide +kernel
theorem d_Nd_estimate_18 : decode b_Nd_estimate 18 = .ok (.istore_n 3, 1) := by decide +kernel
theorem d_Nd_estimate_19 : decode b_Nd_estimate 19 = .ok (.iload_n 3, 1) := by decide +kernel
theorem d_Nd_estimate_20 : decode b_Nd_estimate 20 = .ok (.iconst 1, 1) := by decide +kernel
theorem d_Nd_estimate_21 : decode b_Nd_estimate 21 = .ok (.if_icmp .ge 6, 3) := by decide +kernel
theorem d_Nd_estimate_24 : decode b_Nd_estimate 24 = .ok (.bipush (-9), 2) := by decide +kernel
theorem d_Nd_estimate_26 : decode b_Nd_estimate 26 = .ok (.ireturn, 1) := by decide +kernel
theorem d_Nd_estimate_27 : decode b_Nd_estimate 27 = .ok (.aload_n 0, 1) := by decide +kernel
theorem d_Nd_estimate_28 : decode b_Nd_estimate 28 = .ok (.getfield 34, 3) := by decide +kernel
theorem d_Nd_estimate_31 : decode b_Nd_estimate 31 = .ok (.iload_n 3, 1) := by decide +kernel
theorem d_Nd_estimate_32 : decode b_Nd_estimate 32 = .ok (.iconst 1, 1) := by decide +kernel
theorem d_Nd_estimate_33 : decode b_Nd_estimate 33 = .ok (.isub, 1) := by decide +kernel
theorem d_Nd_estimate_34 : decode b_Nd_estimate 34 = .ok (.iaload, 1) := by decide +kernel
theorem d_Nd_estimate_35 : decode b_Nd_estimate 35 = .ok (.istore 4, 2) := by decide +kernel
theorem d_Nd_estimate_37 : decode b_Nd_estimate 37 = .ok (.aload_n 0, 1) := by decide +kernel
theorem d_Nd_estimate_38 : decode b_Nd_estimate 38 = .ok (.getfield 38, 3) := by decide +kernel
theorem d_Nd_estimate_41 : decode b_Nd_estimate 41 = .ok (.iload_n 3, 1) := by decide +kernel
theorem d_Nd_estimate_42 : decode b_Nd_estimate 42 = .ok (.iconst 1, 1) := by decide +kernel
theorem d_Nd_estimate_43 : decode b_Nd_estimate 43 = .ok (.isub, 1) := by decide +kernel
theorem d_Nd_estimate_44 : decode b_Nd_estimate 44 = .ok (.iaload, 1) := by decide +kernel
theorem d_Nd_estimate_45 : decode b_Nd_estimate 45 = .ok (.iload 4, 2) := by decide +kernel
theorem d_Nd_estimate_47 : decode b_Nd_estimate 47 = .ok (.isub, 1) := by decide +kernel
theorem d_Nd_estimate_48 : decode b_Nd_estimate 48 = .ok (.istore 5, 2) := by decide +kernel
theorem d_Nd_estimate_50 : decode b_Nd_estimate 50 = .ok (.lconst 0, 1) := by decide +kernel
theorem d_Nd_estimate_51 : decode b_Nd_estimate 51 = .ok (.lstore 6, 2) := by decide +kernel
theorem d_Nd_estimate_53 : decode b_Nd_estimate 53 = .ok (.lconst 0, 1) := by decide +kernel
theorem d_Nd_estimate_54 : decode b_Nd_estimate 54 = .ok (.lstore 8, 2) := by decide +kernel
theorem d_Nd_estimate_56 : decode b_Nd_estimate 56 = .ok (.lconst 0, 1) := by decide +kernel
theorem d_Nd_estimate_57 : decode b_Nd_estimate 57 = .ok (.lstore 10, 2) := by decide +kernel
theorem d_Nd_estimate_59 : decode b_Nd_estimate 59 = .ok (.lconst 0, 1) := by decide +kernel
theorem d_Nd_estimate_60 : decode b_Nd_estimate 60 = .ok (.lstore 12, 2) := by decide +kernel
theorem d_Nd_estimate_62 : decode b_Nd_estimate 62 = .ok (.iconst 0, 1) := by decide +kernel
theorem d_Nd_estimate_63 : decode b_Nd_estimate 63 = .ok (.istore 14, 2) := by decide +kernel
theorem d_Nd_estimate_65 : decode b_Nd_estimate 65 = .ok (.iload 14, 2) := by decide +kernel
theorem d_Nd_estimate_67 : decode b_Nd_estimate 67 = .ok (.iload_n 3, 1) := by decide +kernel
theorem d_Nd_estimate_68 : decode b_Nd_estimate 68 = .ok (.if_icmp .ge 85, 3) := by decide +kernel
theorem d_Nd_estimate_71 : decode b_Nd_estimate 71 = .ok (.aload_n 0, 1) := by decide +kernel
theorem d_Nd_estimate_72 : decode b_Nd_estimate 72 = .ok (.getfield 34, 3) := by decide +kernel
theorem d_Nd_estimate_75 : decode b_Nd_estimate 75 = .ok (.iload 14, 2) := by decide +kernel
theorem d_Nd_estimate_77 : decode b_Nd_estimate 77 = .ok (.iaload, 1) := by decide +kernel
theorem d_Nd_estimate_78 : decode b_Nd_estimate 78 = .ok (.iload 4, 2) := by decide +kernel
theorem d_Nd_estimate_80 : decode b_Nd_estimate 80 = .ok (.isub, 1) := by decide +kernel
theorem d_Nd_estimate_81 : decode b_Nd_estimate 81 = .ok (.invokestatic 70, 3) := by decide +kernel
theorem d_Nd_estimate_84 : decode b_Nd_estimate 84 = .ok (.istore 15, 2) := by decide +kernel
theorem d_Nd_estimate_86 : decode b_Nd_estimate 86 = .ok (.aload_n 0, 1) := by decide +kernel
theorem d_Nd_estimate_87 : decode b_Nd_estimate 87 = .ok (.getfield 38, 3) := by decide +kernel
theorem d_Nd_estimate_90 : decode b_Nd_estimate 90 = .ok (.iload 14, 2) := by decide +kernel
theorem d_Nd_estimate_92 : decode b_Nd_estimate 92 = .ok (.iaload, 1) := by decide +kernel
theorem d_Nd_estimate_93 : decode b_Nd_estimate 93 = .ok (.aload_n 0, 1) := by decide +kernel
theorem d_Nd_estimate_94 : decode b_Nd_estimate 94 = .ok (.getfield 34, 3) := by decide +kernel
theorem d_Nd_estimate_97 : decode b_Nd_estimate 97 = .ok (.iload 14, 2) := by decide +kernel
theorem d_Nd_estimate_99 : decode b_Nd_estimate 99 = .ok (.iaload, 1) := by decide +kernel
theorem d_Nd_estimate_100 : decode b_Nd_estimate 100 = .ok (.isub, 1) := by decide +kernel
theorem d_Nd_estimate_101 : decode b_Nd_estimate 101 = .ok (.iload 5, 2) := by decide +kernel
theorem d_Nd_estimate_103 : decode b_Nd_estimate 103 = .ok (.isub, 1) := by decide +kernel
theorem d_Nd_estimate_104 : decode b_Nd_estimate 104 = .ok (.invokestatic 70, 3) := by decide +kernel
theorem d_Nd_estimate_107 : decode b_Nd_estimate 107 = .ok (.istore 16, 2) := by decide +kernel
theorem d_Nd_estimate_109 : decode b_Nd_estimate 109 = .ok (.lload 6, 2) := by decide +kernel
theorem d_Nd_estimate_111 : decode b_Nd_estimate 111 = .ok (.iload 15, 2) := by decide +kernel
theorem d_Nd_estimate_113 : decode b_Nd_estimate 113 = .ok (.i2l, 1) := by decide +kernel
theorem d_Nd_estimate_114 : decode b_Nd_estimate 114 = .ok (.ladd, 1) := by decide +kernel
theorem d_Nd_estimate_115 : decode b_Nd_estimate 115 = .ok (.lstore 6, 2) := by decide +kernel
theorem d_Nd_estimate_117 : decode b_Nd_estimate 117 = .ok (.lload 8, 2) := by decide +kernel
theorem d_Nd_estimate_119 : decode b_Nd_estimate 119 = .ok (.iload 16, 2) := by decide +kernel
theorem d_Nd_estimate_121 : decode b_Nd_estimate 121 = .ok (.i2l, 1) := by decide +kernel
theorem d_Nd_estimate_122 : decode b_Nd_estimate 122 = .ok (.ladd, 1) := by decide +kernel
theorem d_Nd_estimate_123 : decode b_Nd_estimate 123 = .ok (.lstore 8, 2) := by decide +kernel
theorem d_Nd_estimate_125 : decode b_Nd_estimate 125 = .ok (.lload 10, 2) := by decide +kernel
theorem d_Nd_estimate_127 : decode b_Nd_estimate 127 = .ok (.iload 15, 2) := by decide +kernel
theorem d_Nd_estimate_129 : decode b_Nd_estimate 129 = .ok (.iload 16, 2) := by decide +kernel
theorem d_Nd_estimate_131 : decode b_Nd_estimate 131 = .ok (.imul, 1) := by decide +kernel
theorem d_Nd_estimate_132 : decode b_Nd_estimate 132 = .ok (.i2l, 1) := by decide +kernel
theorem d_Nd_estimate_133 : decode b_Nd_estimate 133 = .ok (.ladd, 1) := by decide +kernel
theorem d_Nd_estimate_134 : decode b_Nd_estimate 134 = .ok (.lstore 10, 2) := by decide +kernel
theorem d_Nd_estimate_136 : decode b_Nd_estimate 136 = .ok (.lload 12, 2) := by decide +kernel
theorem d_Nd_estimate_138 : decode b_Nd_estimate 138 = .ok (.iload 15, 2) := by decide +kernel
theorem d_Nd_estimate_140 : decode b_Nd_estimate 140 = .ok (.iload 15, 2) := by decide +kernel
theorem d_Nd_estimate_142 : decode b_Nd_estimate 142 = .ok (.imul, 1) := by decide +kernel
theorem d_Nd_estimate_143 : decode b_Nd_estimate 143 = .ok (.i2l, 1) := by decide +kernel
theorem d_Nd_estimate_144 : decode b_Nd_estimate 144 = .ok (.ladd, 1) := by decide +kernel
theorem d_Nd_estimate_145 : decode b_Nd_estimate 145 = .ok (.lstore 12, 2) := by decide +kernel
theorem d_Nd_estimate_147 : decode b_Nd_estimate 147 = .ok (.iinc 14 1, 3) := by decide +kernel
theorem d_Nd_estimate_150 : decode b_Nd_estimate 150 = .ok (.goto (-85), 3) := by decide +kernel
theorem d_Nd_estimate_153 : decode b_Nd_estimate 153 = .ok (.iload_n 3, 1) := by decide +kernel
theorem d_Nd_estimate_154 : decode b_Nd_estimate 154 = .ok (.i2l, 1) := by decide +kernel
theorem d_Nd_estimate_155 : decode b_Nd_estimate 155 = .ok (.lload 10, 2) := by decide +kernel
theorem d_Nd_estimate_157 : decode b_Nd_estimate 157 = .ok (.lmul, 1) := by decide +kernel
theorem d_Nd_estimate_158 : decode b_Nd_estimate 158 = .ok (.lload 6, 2) := by decide +kernel
theorem d_Nd_estimate_160 : decode b_Nd_estimate 160 = .ok (.lload 8, 2) := by decide +kernel
theorem d_Nd_estimate_162 : decode b_Nd_estimate 162 = .ok (.lmul, 1) := by decide +kernel
theorem d_Nd_estimate_163 : decode b_Nd_estimate 163 = .ok (.lsub, 1) := by decide +kernel
theorem d_Nd_estimate_164 : decode b_Nd_estimate 164 = .ok (.lstore 14, 2) := by decide +kernel
theorem d_Nd_estimate_166 : decode b_Nd_estimate 166 = .ok (.iload_n 3, 1) := by decide +kernel
theorem d_Nd_estimate_167 : decode b_Nd_estimate 167 = .ok (.i2l, 1) := by decide +kernel
theorem d_Nd_estimate_168 : decode b_Nd_estimate 168 = .ok (.lload 12, 2) := by decide +kernel
theorem d_Nd_estimate_170 : decode b_Nd_estimate 170 = .ok (.lmul, 1) := by decide +kernel
theorem d_Nd_estimate_171 : decode b_Nd_estimate 171 = .ok (.lload 6, 2) := by decide +kernel
theorem d_Nd_estimate_173 : decode b_Nd_estimate 173 = .ok (.lload 6, 2) := by decide +kernel
theorem d_Nd_estimate_175 : decode b_Nd_estimate 175 = .ok (.lmul, 1) := by decide +kernel
theorem d_Nd_estimate_176 : decode b_Nd_estimate 176 = .ok (.lsub, 1) := by decide +kernel
theorem d_Nd_estimate_177 : decode b_Nd_estimate 177 = .ok (.lstore 16, 2) := by decide +kernel
theorem d_Nd_estimate_179 : decode b_Nd_estimate 179 = .ok (.lload 16, 2) := by decide +kernel
theorem d_Nd_estimate_181 : decode b_Nd_estimate 181 = .ok (.lconst 0, 1) := by decide +kernel
theorem d_Nd_estimate_182 : decode b_Nd_estimate 182 = .ok (.lcmp, 1) := by decide +kernel
theorem d_Nd_estimate_183 : decode b_Nd_estimate 183 = .ok (.ifCond .ne 13, 3) := by decide +kernel
theorem d_Nd_estimate_186 : decode b_Nd_estimate 186 = .ok (.lload 8, 2) := by decide +kernel
theorem d_Nd_estimate_188 : decode b_Nd_estimate 188 = .ok (.iload_n 3, 1) := by decide +kernel
theorem d_Nd_estimate_189 : decode b_Nd_estimate 189 = .ok (.i2l, 1) := by decide +kernel
theorem d_Nd_estimate_190 : decode b_Nd_estimate 190 = .ok (.invokestatic 74, 3) := by decide +kernel
theorem d_Nd_estimate_193 : decode b_Nd_estimate 193 = .ok (.goto 37, 3) := by decide +kernel
theorem d_Nd_estimate_196 : decode b_Nd_estimate 196 = .ok (.lload 8, 2) := by decide +kernel
theorem d_Nd_estimate_198 : decode b_Nd_estimate 198 = .ok (.lload 16, 2) := by decide +kernel
theorem d_Nd_estimate_200 : decode b_Nd_estimate 200 = .ok (.lmul, 1) := by decide +kernel
theorem d_Nd_estimate_201 : decode b_Nd_estimate 201 = .ok (.lload 14, 2) := by decide +kernel
theorem d_Nd_estimate_203 : decode b_Nd_estimate 203 = .ok (.lload 6, 2) := by decide +kernel
theorem d_Nd_estimate_205 : decode b_Nd_estimate 205 = .ok (.lmul, 1) := by decide +kernel
theorem d_Nd_estimate_206 : decode b_Nd_estimate 206 = .ok (.lsub, 1) := by decide +kernel
theorem d_Nd_estimate_207 : decode b_Nd_estimate 207 = .ok (.iload_n 3, 1) := by decide +kernel
theorem d_Nd_estimate_208 : decode b_Nd_estimate 208 = .ok (.i2l, 1) := by decide +kernel
theorem d_Nd_estimate_209 : decode b_Nd_estimate 209 = .ok (.lload 14, 2) := by decide +kernel
theorem d_Nd_estimate_211 : decode b_Nd_estimate 211 = .ok (.lmul, 1) := by decide +kernel
theorem d_Nd_estimate_212 : decode b_Nd_estimate 212 = .ok (.iload_n 2, 1) := by decide +kernel
theorem d_Nd_estimate_213 : decode b_Nd_estimate 213 = .ok (.iload 4, 2) := by decide +kernel
theorem d_Nd_estimate_215 : decode b_Nd_estimate 215 = .ok (.isub, 1) := by decide +kernel
theorem d_Nd_estimate_216 : decode b_Nd_estimate 216 = .ok (.invokestatic 70, 3) := by decide +kernel
theorem d_Nd_estimate_219 : decode b_Nd_estimate 219 = .ok (.i2l, 1) := by decide +kernel
theorem d_Nd_estimate_220 : decode b_Nd_estimate 220 = .ok (.lmul, 1) := by decide +kernel
theorem d_Nd_estimate_221 : decode b_Nd_estimate 221 = .ok (.ladd, 1) := by decide +kernel
theorem d_Nd_estimate_222 : decode b_Nd_estimate 222 = .ok (.iload_n 3, 1) := by decide +kernel
theorem d_Nd_estimate_223 : decode b_Nd_estimate 223 = .ok (.i2l, 1) := by decide +kernel
theorem d_Nd_estimate_224 : decode b_Nd_estimate 224 = .ok (.lload 16, 2) := by decide +kernel
theorem d_Nd_estimate_226 : decode b_Nd_estimate 226 = .ok (.lmul, 1) := by decide +kernel
theorem d_Nd_estimate_227 : decode b_Nd_estimate 227 = .ok (.invokestatic 74, 3) := by decide +kernel
theorem d_Nd_estimate_230 : decode b_Nd_estimate 230 = .ok (.lstore 18, 2) := by decide +kernel
theorem d_Nd_estimate_232 : decode b_Nd_estimate 232 = .ok (.iload_n 2, 1) := by decide +kernel
theorem d_Nd_estimate_233 : decode b_Nd_estimate 233 = .ok (.iload 5, 2) := by decide +kernel
theorem d_Nd_estimate_235 : decode b_Nd_estimate 235 = .ok (.iadd, 1) := by decide +kernel
theorem d_Nd_estimate_236 : decode b_Nd_estimate 236 = .ok (.i2l, 1) := by decide +kernel
theorem d_Nd_estimate_237 : decode b_Nd_estimate 237 = .ok (.lload 18, 2) := by decide +kernel
theorem d_Nd_estimate_239 : decode b_Nd_estimate 239 = .ok (.ladd, 1) := by decide +kernel
theorem d_Nd_estimate_240 : decode b_Nd_estimate 240 = .ok (.ldc2_w 78, 3) := by decide +kernel
theorem d_Nd_estimate_243 : decode b_Nd_estimate 243 = .ok (.invokestatic 80, 3) := by decide +kernel
theorem d_Nd_estimate_246 : decode b_Nd_estimate 246 = .ok (.l2i, 1) := by decide +kernel
theorem d_Nd_estimate_247 : decode b_Nd_estimate 247 = .ok (.ireturn, 1) := by decide +kernel
abbrev b_Fl_shiftedMiss : ByteArray := prog_2_method_7_code
abbrev y_Fl_shiftedMiss : MethodName := ⟨"TimeFlood$Flood", "shiftedMiss", "(LTimeFlood$State;I)I"⟩
theorem m_Fl_shiftedMiss : MWV y_Fl_shiftedMiss b_Fl_shiftedMiss 5 (Option.some FieldType.int) 2 := ⟨wd_386, wd_387, wd_4, wd_388, by decide, by decide, by decide +kernel⟩
theorem d_Fl_shiftedMiss_0 : decode b_Fl_shiftedMiss 0 = .ok (.aload_n 1, 1) := by decide +kernel
theorem d_Fl_shiftedMiss_1 : decode b_Fl_shiftedMiss 1 = .ok (.iload_n 2, 1) := by decide +kernel
theorem d_Fl_shiftedMiss_2 : decode b_Fl_shiftedMiss 2 = .ok (.invokevirtual 127, 3) := by decide +kernel
theorem d_Fl_shiftedMiss_5 : decode b_Fl_shiftedMiss 5 = .ok (.istore_n 3, 1) := by decide +kernel
theorem d_Fl_shiftedMiss_6 : decode b_Fl_shiftedMiss 6 = .ok (.iload_n 3, 1) := by decide +kernel
theorem d_Fl_shiftedMiss_7 : decode b_Fl_shiftedMiss 7 = .ok (.ifCond .lt 14, 3) := by decide +kernel
theorem d_Fl_shiftedMiss_10 : decode b_Fl_shiftedMiss 10 = .ok (.iload_n 3, 1) := by decide +kernel
theorem d_Fl_shiftedMiss_11 : decode b_Fl_shiftedMiss 11 = .ok (.aload_n 0, 1) := by decide +kernel
theorem d_Fl_shiftedMiss_12 : decode b_Fl_shiftedMiss 12 = .ok (.getfield 12, 3) := by decide +kernel
theorem d_Fl_shiftedMiss_15 : decode b_Fl_shiftedMiss 15 = .ok (.getfield 45, 3) := by decide +kernel
theorem d_Fl_shiftedMiss_18 : decode b_Fl_shiftedMiss 18 = .ok (.if_icmp .lt 6, 3) := by decide +kernel
theorem d_Fl_shiftedMiss_21 : decode b_Fl_shiftedMiss 21 = .ok (.bipush (-9), 2) := by decide +kernel
theorem d_Fl_shiftedMiss_23 : decode b_Fl_shiftedMiss 23 = .ok (.ireturn, 1) := by decide +kernel
theorem d_Fl_shiftedMiss_24 : decode b_Fl_shiftedMiss 24 = .ok (.aload_n 1, 1) := by decide +kernel
theorem d_Fl_shiftedMiss_25 : decode b_Fl_shiftedMiss 25 = .ok (.getfield 48, 3) := by decide +kernel
theorem d_Fl_shiftedMiss_28 : decode b_Fl_shiftedMiss 28 = .ok (.iload_n 2, 1) := by decide +kernel
theorem d_Fl_shiftedMiss_29 : decode b_Fl_shiftedMiss 29 = .ok (.aaload, 1) := by decide +kernel
theorem d_Fl_shiftedMiss_30 : decode b_Fl_shiftedMiss 30 = .ok (.iload_n 2, 1) := by decide +kernel
theorem d_Fl_shiftedMiss_31 : decode b_Fl_shiftedMiss 31 = .ok (.aload_n 0, 1) := by decide +kernel
theorem d_Fl_shiftedMiss_32 : decode b_Fl_shiftedMiss 32 = .ok (.aload_n 1, 1) := by decide +kernel
theorem d_Fl_shiftedMiss_33 : decode b_Fl_shiftedMiss 33 = .ok (.iload_n 2, 1) := by decide +kernel
theorem d_Fl_shiftedMiss_34 : decode b_Fl_shiftedMiss 34 = .ok (.invokevirtual 75, 3) := by decide +kernel
theorem d_Fl_shiftedMiss_37 : decode b_Fl_shiftedMiss 37 = .ok (.invokevirtual 79, 3) := by decide +kernel
theorem d_Fl_shiftedMiss_40 : decode b_Fl_shiftedMiss 40 = .ok (.istore 4, 2) := by decide +kernel
theorem d_Fl_shiftedMiss_42 : decode b_Fl_shiftedMiss 42 = .ok (.iload 4, 2) := by decide +kernel
theorem d_Fl_shiftedMiss_44 : decode b_Fl_shiftedMiss 44 = .ok (.bipush (-9), 2) := by decide +kernel
theorem d_Fl_shiftedMiss_46 : decode b_Fl_shiftedMiss 46 = .ok (.if_icmp .ne 6, 3) := by decide +kernel
theorem d_Fl_shiftedMiss_49 : decode b_Fl_shiftedMiss 49 = .ok (.bipush (-9), 2) := by decide +kernel
theorem d_Fl_shiftedMiss_51 : decode b_Fl_shiftedMiss 51 = .ok (.ireturn, 1) := by decide +kernel
theorem d_Fl_shiftedMiss_52 : decode b_Fl_shiftedMiss 52 = .ok (.iload 4, 2) := by decide +kernel
theorem d_Fl_shiftedMiss_54 : decode b_Fl_shiftedMiss 54 = .ok (.aload_n 0, 1) := by decide +kernel
theorem d_Fl_shiftedMiss_55 : decode b_Fl_shiftedMiss 55 = .ok (.aload_n 1, 1) := by decide +kernel
theorem d_Fl_shiftedMiss_56 : decode b_Fl_shiftedMiss 56 = .ok (.iload_n 3, 1) := by decide +kernel
theorem d_Fl_shiftedMiss_57 : decode b_Fl_shiftedMiss 57 = .ok (.invokevirtual 75, 3) := by decide +kernel
theorem d_Fl_shiftedMiss_60 : decode b_Fl_shiftedMiss 60 = .ok (.isub, 1) := by decide +kernel
theorem d_Fl_shiftedMiss_61 : decode b_Fl_shiftedMiss 61 = .ok (.invokestatic 131, 3) := by decide +kernel
theorem d_Fl_shiftedMiss_64 : decode b_Fl_shiftedMiss 64 = .ok (.sipush 1000, 3) := by decide +kernel
theorem d_Fl_shiftedMiss_67 : decode b_Fl_shiftedMiss 67 = .ok (.iadd, 1) := by decide +kernel
theorem d_Fl_shiftedMiss_68 : decode b_Fl_shiftedMiss 68 = .ok (.ireturn, 1) := by decide +kernel
abbrev b_Fl_isInTime : ByteArray := prog_2_method_8_code
abbrev y_Fl_isInTime : MethodName := ⟨"TimeFlood$Flood", "isInTime", "(LTimeFlood$State;I)Z"⟩
theorem m_Fl_isInTime : MWV y_Fl_isInTime b_Fl_isInTime 4 (Option.some FieldType.boolean) 2 := ⟨wd_382, wd_383, wd_4, wd_384, by decide, by decide, by decide +kernel⟩
theorem d_Fl_isInTime_0 : decode b_Fl_isInTime 0 = .ok (.aload_n 0, 1) := by decide +kernel
theorem d_Fl_isInTime_1 : decode b_Fl_isInTime 1 = .ok (.aload_n 1, 1) := by decide +kernel
theorem d_Fl_isInTime_2 : decode b_Fl_isInTime 2 = .ok (.iload_n 2, 1) := by decide +kernel
theorem d_Fl_isInTime_3 : decode b_Fl_isInTime 3 = .ok (.invokevirtual 134, 3) := by decide +kernel
theorem d_Fl_isInTime_6 : decode b_Fl_isInTime 6 = .ok (.istore_n 3, 1) := by decide +kernel
theorem d_Fl_isInTime_7 : decode b_Fl_isInTime 7 = .ok (.iload_n 3, 1) := by decide +kernel
theorem d_Fl_isInTime_8 : decode b_Fl_isInTime 8 = .ok (.sipush 997, 3) := by decide +kernel
theorem d_Fl_isInTime_11 : decode b_Fl_isInTime 11 = .ok (.if_icmp .lt 14, 3) := by decide +kernel
theorem d_Fl_isInTime_14 : decode b_Fl_isInTime 14 = .ok (.iload_n 3, 1) := by decide +kernel
theorem d_Fl_isInTime_15 : decode b_Fl_isInTime 15 = .ok (.sipush 1003, 3) := by decide +kernel
theorem d_Fl_isInTime_18 : decode b_Fl_isInTime 18 = .ok (.if_icmp .gt 7, 3) := by decide +kernel
theorem d_Fl_isInTime_21 : decode b_Fl_isInTime 21 = .ok (.iconst 1, 1) := by decide +kernel
theorem d_Fl_isInTime_22 : decode b_Fl_isInTime 22 = .ok (.goto 4, 3) := by decide +kernel
theorem d_Fl_isInTime_25 : decode b_Fl_isInTime 25 = .ok (.iconst 0, 1) := by decide +kernel
theorem d_Fl_isInTime_26 : decode b_Fl_isInTime 26 = .ok (.ireturn, 1) := by decide +kernel
abbrev b_Fl_inTimeSet : ByteArray := prog_2_method_9_code
abbrev y_Fl_inTimeSet : MethodName := ⟨"TimeFlood$Flood", "inTimeSet", "(LTimeFlood$State;)I"⟩
theorem m_Fl_inTimeSet : MWV y_Fl_inTimeSet b_Fl_inTimeSet 4 (Option.some FieldType.int) 1 := ⟨wd_378, wd_379, wd_4, wd_380, by decide, by decide, by decide +kernel⟩
theorem d_Fl_inTimeSet_0 : decode b_Fl_inTimeSet 0 = .ok (.iconst 0, 1) := by decide +kernel
theorem d_Fl_inTimeSet_1 : decode b_Fl_inTimeSet 1 = .ok (.istore_n 2, 1) := by decide +kernel
theorem d_Fl_inTimeSet_2 : decode b_Fl_inTimeSet 2 = .ok (.iconst 0, 1) := by decide +kernel
theorem d_Fl_inTimeSet_3 : decode b_Fl_inTimeSet 3 = .ok (.istore_n 3, 1) := by decide +kernel
theorem d_Fl_inTimeSet_4 : decode b_Fl_inTimeSet 4 = .ok (.iload_n 3, 1) := by decide +kernel
theorem d_Fl_inTimeSet_5 : decode b_Fl_inTimeSet 5 = .ok (.aload_n 0, 1) := by decide +kernel
theorem d_Fl_inTimeSet_6 : decode b_Fl_inTimeSet 6 = .ok (.getfield 12, 3) := by decide +kernel
theorem d_Fl_inTimeSet_9 : decode b_Fl_inTimeSet 9 = .ok (.getfield 45, 3) := by decide +kernel
theorem d_Fl_inTimeSet_12 : decode b_Fl_inTimeSet 12 = .ok (.if_icmp .ge 24, 3) := by decide +kernel
theorem d_Fl_inTimeSet_15 : decode b_Fl_inTimeSet 15 = .ok (.aload_n 0, 1) := by decide +kernel
theorem d_Fl_inTimeSet_16 : decode b_Fl_inTimeSet 16 = .ok (.aload_n 1, 1) := by decide +kernel
theorem d_Fl_inTimeSet_17 : decode b_Fl_inTimeSet 17 = .ok (.iload_n 3, 1) := by decide +kernel
theorem d_Fl_inTimeSet_18 : decode b_Fl_inTimeSet 18 = .ok (.invokevirtual 137, 3) := by decide +kernel
theorem d_Fl_inTimeSet_21 : decode b_Fl_inTimeSet 21 = .ok (.ifCond .eq 9, 3) := by decide +kernel
theorem d_Fl_inTimeSet_24 : decode b_Fl_inTimeSet 24 = .ok (.iload_n 2, 1) := by decide +kernel
theorem d_Fl_inTimeSet_25 : decode b_Fl_inTimeSet 25 = .ok (.iconst 1, 1) := by decide +kernel
theorem d_Fl_inTimeSet_26 : decode b_Fl_inTimeSet 26 = .ok (.iload_n 3, 1) := by decide +kernel
theorem d_Fl_inTimeSet_27 : decode b_Fl_inTimeSet 27 = .ok (.ishl, 1) := by decide +kernel
theorem d_Fl_inTimeSet_28 : decode b_Fl_inTimeSet 28 = .ok (.ior, 1) := by decide +kernel
theorem d_Fl_inTimeSet_29 : decode b_Fl_inTimeSet 29 = .ok (.istore_n 2, 1) := by decide +kernel
theorem d_Fl_inTimeSet_30 : decode b_Fl_inTimeSet 30 = .ok (.iinc 3 1, 3) := by decide +kernel
theorem d_Fl_inTimeSet_33 : decode b_Fl_inTimeSet 33 = .ok (.goto (-29), 3) := by decide +kernel
theorem d_Fl_inTimeSet_36 : decode b_Fl_inTimeSet 36 = .ok (.iload_n 2, 1) := by decide +kernel
theorem d_Fl_inTimeSet_37 : decode b_Fl_inTimeSet 37 = .ok (.ireturn, 1) := by decide +kernel
abbrev b_St_isUnited : ByteArray := prog_8_method_10_code
abbrev y_St_isUnited : MethodName := ⟨"TimeFlood$State", "isUnited", "()Z"⟩
theorem m_St_isUnited : MWV y_St_isUnited b_St_isUnited 4 (Option.some FieldType.boolean) 0 := ⟨wd_418, wd_419, wd_5, wd_420, by decide, by decide, by decide +kernel⟩
theorem d_St_isUnited_0 : decode b_St_isUnited 0 = .ok (.bipush (-9), 2) := by decide +kernel
theorem d_St_isUnited_2 : decode b_St_isUnited 2 = .ok (.istore_n 1, 1) := by decide +kernel
theorem d_St_isUnited_3 : decode b_St_isUnited 3 = .ok (.iconst 0, 1) := by decide +kernel
theorem d_St_isUnited_4 : decode b_St_isUnited 4 = .ok (.istore_n 2, 1) := by decide +kernel
theorem d_St_isUnited_5 : decode b_St_isUnited 5 = .ok (.iload_n 2, 1) := by decide +kernel
theorem d_St_isUnited_6 : decode b_St_isUnited 6 = .ok (.iconst 5, 1) := by decide +kernel
theorem d_St_isUnited_7 : decode b_St_isUnited 7 = .ok (.if_icmp .ge 52, 3) := by decide +kernel
theorem d_St_isUnited_10 : decode b_St_isUnited 10 = .ok (.aload_n 0, 1) := by decide +kernel
theorem d_St_isUnited_11 : decode b_St_isUnited 11 = .ok (.getfield 20, 3) := by decide +kernel
theorem d_St_isUnited_14 : decode b_St_isUnited 14 = .ok (.iload_n 2, 1) := by decide +kernel
theorem d_St_isUnited_15 : decode b_St_isUnited 15 = .ok (.aaload, 1) := by decide +kernel
theorem d_St_isUnited_16 : decode b_St_isUnited 16 = .ok (.getfield 37, 3) := by decide +kernel
theorem d_St_isUnited_19 : decode b_St_isUnited 19 = .ok (.ifCond .eq 34, 3) := by decide +kernel
theorem d_St_isUnited_22 : decode b_St_isUnited 22 = .ok (.aload_n 0, 1) := by decide +kernel
theorem d_St_isUnited_23 : decode b_St_isUnited 23 = .ok (.getfield 20, 3) := by decide +kernel
theorem d_St_isUnited_26 : decode b_St_isUnited 26 = .ok (.iload_n 2, 1) := by decide +kernel
theorem d_St_isUnited_27 : decode b_St_isUnited 27 = .ok (.aaload, 1) := by decide +kernel
theorem d_St_isUnited_28 : decode b_St_isUnited 28 = .ok (.getfield 48, 3) := by decide +kernel
theorem d_St_isUnited_31 : decode b_St_isUnited 31 = .ok (.istore_n 3, 1) := by decide +kernel
theorem d_St_isUnited_32 : decode b_St_isUnited 32 = .ok (.iload_n 3, 1) := by decide +kernel
theorem d_St_isUnited_33 : decode b_St_isUnited 33 = .ok (.bipush (-9), 2) := by decide +kernel
theorem d_St_isUnited_35 : decode b_St_isUnited 35 = .ok (.if_icmp .eq 14, 3) := by decide +kernel
theorem d_St_isUnited_38 : decode b_St_isUnited 38 = .ok (.iload_n 1, 1) := by decide +kernel
theorem d_St_isUnited_39 : decode b_St_isUnited 39 = .ok (.bipush (-9), 2) := by decide +kernel
theorem d_St_isUnited_41 : decode b_St_isUnited 41 = .ok (.if_icmp .eq 10, 3) := by decide +kernel
theorem d_St_isUnited_44 : decode b_St_isUnited 44 = .ok (.iload_n 3, 1) := by decide +kernel
theorem d_St_isUnited_45 : decode b_St_isUnited 45 = .ok (.iload_n 1, 1) := by decide +kernel
theorem d_St_isUnited_46 : decode b_St_isUnited 46 = .ok (.if_icmp .eq 5, 3) := by decide +kernel
theorem d_St_isUnited_49 : decode b_St_isUnited 49 = .ok (.iconst 0, 1) := by decide +kernel
theorem d_St_isUnited_50 : decode b_St_isUnited 50 = .ok (.ireturn, 1) := by decide +kernel
theorem d_St_isUnited_51 : decode b_St_isUnited 51 = .ok (.iload_n 3, 1) := by decide +kernel
theorem d_St_isUnited_52 : decode b_St_isUnited 52 = .ok (.istore_n 1, 1) := by decide +kernel
theorem d_St_isUnited_53 : decode b_St_isUnited 53 = .ok (.iinc 2 1, 3) := by decide +kernel
theorem d_St_isUnited_56 : decode b_St_isUnited 56 = .ok (.goto (-51), 3) := by decide +kernel
theorem d_St_isUnited_59 : decode b_St_isUnited 59 = .ok (.iconst 1, 1) := by decide +kernel
theorem d_St_isUnited_60 : decode b_St_isUnited 60 = .ok (.ireturn, 1) := by decide +kernel
abbrev b_TF_about : ByteArray := prog_1_method_6_code
abbrev y_TF_about : MethodName := ⟨"TimeFlood", "about", "(I)I"⟩
theorem m_TF_about : MWV y_TF_about b_TF_about 2 (Option.some FieldType.int) 1 := ⟨wd_362, wd_363, wd_1, wd_364, by decide, by decide, by decide +kernel⟩
theorem d_TF_about_0 : decode b_TF_about 0 = .ok (.iload_n 1, 1) := by decide +kernel
theorem d_TF_about_1 : decode b_TF_about 1 = .ok (.tableswitch 192 0 13 #[71, 79, 87, 95, 103, 111, 119, 127, 135, 147, 155, 171, 179, 187], 71) := by decide +kernel
theorem d_TF_about_72 : decode b_TF_about 72 = .ok (.aload_n 0, 1) := by decide +kernel
theorem d_TF_about_73 : decode b_TF_about 73 = .ok (.getfield 35, 3) := by decide +kernel
theorem d_TF_about_76 : decode b_TF_about 76 = .ok (.getfield 91, 3) := by decide +kernel
theorem d_TF_about_79 : decode b_TF_about 79 = .ok (.ireturn, 1) := by decide +kernel
theorem d_TF_about_80 : decode b_TF_about 80 = .ok (.aload_n 0, 1) := by decide +kernel
theorem d_TF_about_81 : decode b_TF_about 81 = .ok (.getfield 35, 3) := by decide +kernel
theorem d_TF_about_84 : decode b_TF_about 84 = .ok (.getfield 94, 3) := by decide +kernel
theorem d_TF_about_87 : decode b_TF_about 87 = .ok (.ireturn, 1) := by decide +kernel
theorem d_TF_about_88 : decode b_TF_about 88 = .ok (.aload_n 0, 1) := by decide +kernel
theorem d_TF_about_89 : decode b_TF_about 89 = .ok (.getfield 35, 3) := by decide +kernel
theorem d_TF_about_92 : decode b_TF_about 92 = .ok (.getfield 97, 3) := by decide +kernel
theorem d_TF_about_95 : decode b_TF_about 95 = .ok (.ireturn, 1) := by decide +kernel
theorem d_TF_about_96 : decode b_TF_about 96 = .ok (.aload_n 0, 1) := by decide +kernel
theorem d_TF_about_97 : decode b_TF_about 97 = .ok (.getfield 35, 3) := by decide +kernel
theorem d_TF_about_100 : decode b_TF_about 100 = .ok (.getfield 100, 3) := by decide +kernel
theorem d_TF_about_103 : decode b_TF_about 103 = .ok (.ireturn, 1) := by decide +kernel
theorem d_TF_about_104 : decode b_TF_about 104 = .ok (.aload_n 0, 1) := by decide +kernel
theorem d_TF_about_105 : decode b_TF_about 105 = .ok (.getfield 35, 3) := by decide +kernel
theorem d_TF_about_108 : decode b_TF_about 108 = .ok (.getfield 103, 3) := by decide +kernel
theorem d_TF_about_111 : decode b_TF_about 111 = .ok (.ireturn, 1) := by decide +kernel
theorem d_TF_about_112 : decode b_TF_about 112 = .ok (.aload_n 0, 1) := by decide +kernel
theorem d_TF_about_113 : decode b_TF_about 113 = .ok (.getfield 39, 3) := by decide +kernel
theorem d_TF_about_116 : decode b_TF_about 116 = .ok (.getfield 106, 3) := by decide +kernel
theorem d_TF_about_119 : decode b_TF_about 119 = .ok (.ireturn, 1) := by decide +kernel
theorem d_TF_about_120 : decode b_TF_about 120 = .ok (.aload_n 0, 1) := by decide +kernel
theorem d_TF_about_121 : decode b_TF_about 121 = .ok (.getfield 39, 3) := by decide +kernel
theorem d_TF_about_124 : decode b_TF_about 124 = .ok (.invokevirtual 109, 3) := by decide +kernel
theorem d_TF_about_127 : decode b_TF_about 127 = .ok (.ireturn, 1) := by decide +kernel
theorem d_TF_about_128 : decode b_TF_about 128 = .ok (.aload_n 0, 1) := by decide +kernel
theorem d_TF_about_129 : decode b_TF_about 129 = .ok (.getfield 39, 3) := by decide +kernel
theorem d_TF_about_132 : decode b_TF_about 132 = .ok (.invokevirtual 113, 3) := by decide +kernel
theorem d_TF_about_135 : decode b_TF_about 135 = .ok (.ireturn, 1) := by decide +kernel
theorem d_TF_about_136 : decode b_TF_about 136 = .ok (.aload_n 0, 1) := by decide +kernel
theorem d_TF_about_137 : decode b_TF_about 137 = .ok (.getfield 27, 3) := by decide +kernel
theorem d_TF_about_140 : decode b_TF_about 140 = .ok (.aload_n 0, 1) := by decide +kernel
theorem d_TF_about_141 : decode b_TF_about 141 = .ok (.getfield 39, 3) := by decide +kernel
theorem d_TF_about_144 : decode b_TF_about 144 = .ok (.invokevirtual 116, 3) := by decide +kernel
theorem d_TF_about_147 : decode b_TF_about 147 = .ok (.ireturn, 1) := by decide +kernel
theorem d_TF_about_148 : decode b_TF_about 148 = .ok (.aload_n 0, 1) := by decide +kernel
theorem d_TF_about_149 : decode b_TF_about 149 = .ok (.getfield 39, 3) := by decide +kernel
theorem d_TF_about_152 : decode b_TF_about 152 = .ok (.getfield 120, 3) := by decide +kernel
theorem d_TF_about_155 : decode b_TF_about 155 = .ok (.ireturn, 1) := by decide +kernel
theorem d_TF_about_156 : decode b_TF_about 156 = .ok (.aload_n 0, 1) := by decide +kernel
theorem d_TF_about_157 : decode b_TF_about 157 = .ok (.getfield 39, 3) := by decide +kernel
theorem d_TF_about_160 : decode b_TF_about 160 = .ok (.invokevirtual 123, 3) := by decide +kernel
theorem d_TF_about_163 : decode b_TF_about 163 = .ok (.ifCond .eq 7, 3) := by decide +kernel
theorem d_TF_about_166 : decode b_TF_about 166 = .ok (.iconst 1, 1) := by decide +kernel
theorem d_TF_about_167 : decode b_TF_about 167 = .ok (.goto 4, 3) := by decide +kernel
theorem d_TF_about_170 : decode b_TF_about 170 = .ok (.iconst 0, 1) := by decide +kernel
theorem d_TF_about_171 : decode b_TF_about 171 = .ok (.ireturn, 1) := by decide +kernel
theorem d_TF_about_172 : decode b_TF_about 172 = .ok (.aload_n 0, 1) := by decide +kernel
theorem d_TF_about_173 : decode b_TF_about 173 = .ok (.getfield 49, 3) := by decide +kernel
theorem d_TF_about_176 : decode b_TF_about 176 = .ok (.getfield 127, 3) := by decide +kernel
theorem d_TF_about_179 : decode b_TF_about 179 = .ok (.ireturn, 1) := by decide +kernel
theorem d_TF_about_180 : decode b_TF_about 180 = .ok (.aload_n 0, 1) := by decide +kernel
theorem d_TF_about_181 : decode b_TF_about 181 = .ok (.getfield 64, 3) := by decide +kernel
theorem d_TF_about_184 : decode b_TF_about 184 = .ok (.getfield 130, 3) := by decide +kernel
theorem d_TF_about_187 : decode b_TF_about 187 = .ok (.ireturn, 1) := by decide +kernel
theorem d_TF_about_188 : decode b_TF_about 188 = .ok (.aload_n 0, 1) := by decide +kernel
theorem d_TF_about_189 : decode b_TF_about 189 = .ok (.getfield 13, 3) := by decide +kernel
theorem d_TF_about_192 : decode b_TF_about 192 = .ok (.ireturn, 1) := by decide +kernel
theorem d_TF_about_193 : decode b_TF_about 193 = .ok (.bipush (-2), 2) := by decide +kernel
theorem d_TF_about_195 : decode b_TF_about 195 = .ok (.ireturn, 1) := by decide +kernel
abbrev b_TF_hasNode : ByteArray := prog_1_method_27_code
abbrev y_TF_hasNode : MethodName := ⟨"TimeFlood", "hasNode", "(I)Z"⟩
theorem m_TF_hasNode : MWV y_TF_hasNode b_TF_hasNode 2 (Option.some FieldType.boolean) 1 := ⟨wd_427, wp_4, wd_1, wd_428, by decide, by decide, by decide +kernel⟩
theorem d_TF_hasNode_0 : decode b_TF_hasNode 0 = .ok (.iload_n 1, 1) := by decide +kernel
theorem d_TF_hasNode_1 : decode b_TF_hasNode 1 = .ok (.ifCond .lt 18, 3) := by decide +kernel
theorem d_TF_hasNode_4 : decode b_TF_hasNode 4 = .ok (.iload_n 1, 1) := by decide +kernel
theorem d_TF_hasNode_5 : decode b_TF_hasNode 5 = .ok (.aload_n 0, 1) := by decide +kernel
theorem d_TF_hasNode_6 : decode b_TF_hasNode 6 = .ok (.getfield 35, 3) := by decide +kernel
theorem d_TF_hasNode_9 : decode b_TF_hasNode 9 = .ok (.getfield 91, 3) := by decide +kernel
theorem d_TF_hasNode_12 : decode b_TF_hasNode 12 = .ok (.if_icmp .ge 7, 3) := by decide +kernel
theorem d_TF_hasNode_15 : decode b_TF_hasNode 15 = .ok (.iconst 1, 1) := by decide +kernel
theorem d_TF_hasNode_16 : decode b_TF_hasNode 16 = .ok (.goto 4, 3) := by decide +kernel
theorem d_TF_hasNode_19 : decode b_TF_hasNode 19 = .ok (.iconst 0, 1) := by decide +kernel
theorem d_TF_hasNode_20 : decode b_TF_hasNode 20 = .ok (.ireturn, 1) := by decide +kernel
abbrev b_Fl_property : ByteArray := prog_2_method_10_code
abbrev y_Fl_property : MethodName := ⟨"TimeFlood$Flood", "property", "(LTimeFlood$State;II)I"⟩
theorem m_Fl_property : MWV y_Fl_property b_Fl_property 5 (Option.some FieldType.int) 3 := ⟨wd_430, wd_431, wd_4, wd_432, by decide, by decide, by decide +kernel⟩
theorem d_Fl_property_0 : decode b_Fl_property 0 = .ok (.aload_n 1, 1) := by decide +kernel
theorem d_Fl_property_1 : decode b_Fl_property 1 = .ok (.getfield 48, 3) := by decide +kernel
theorem d_Fl_property_4 : decode b_Fl_property 4 = .ok (.iload_n 2, 1) := by decide +kernel
theorem d_Fl_property_5 : decode b_Fl_property 5 = .ok (.aaload, 1) := by decide +kernel
theorem d_Fl_property_6 : decode b_Fl_property 6 = .ok (.astore 4, 2) := by decide +kernel
theorem d_Fl_property_8 : decode b_Fl_property 8 = .ok (.iload_n 3, 1) := by decide +kernel
theorem d_Fl_property_9 : decode b_Fl_property 9 = .ok (.iconst 4, 1) := by decide +kernel
theorem d_Fl_property_10 : decode b_Fl_property 10 = .ok (.if_icmp .lt 14, 3) := by decide +kernel
theorem d_Fl_property_13 : decode b_Fl_property 13 = .ok (.aload 4, 2) := by decide +kernel
theorem d_Fl_property_15 : decode b_Fl_property 15 = .ok (.getfield 52, 3) := by decide +kernel
theorem d_Fl_property_18 : decode b_Fl_property 18 = .ok (.ifCond .ne 6, 3) := by decide +kernel
theorem d_Fl_property_21 : decode b_Fl_property 21 = .ok (.bipush (-9), 2) := by decide +kernel
theorem d_Fl_property_23 : decode b_Fl_property 23 = .ok (.ireturn, 1) := by decide +kernel
theorem d_Fl_property_24 : decode b_Fl_property 24 = .ok (.iload_n 3, 1) := by decide +kernel
theorem d_Fl_property_25 : decode b_Fl_property 25 = .ok (.tableswitch 138 0 9 #[55, 64, 74, 81, 95, 101, 107, 113, 119, 125], 55) := by decide +kernel
theorem d_Fl_property_80 : decode b_Fl_property 80 = .ok (.aload 4, 2) := by decide +kernel
theorem d_Fl_property_82 : decode b_Fl_property 82 = .ok (.getfield 113, 3) := by decide +kernel
theorem d_Fl_property_85 : decode b_Fl_property 85 = .ok (.bipush (-4), 2) := by decide +kernel
theorem d_Fl_property_87 : decode b_Fl_property 87 = .ok (.isub, 1) := by decide +kernel
theorem d_Fl_property_88 : decode b_Fl_property 88 = .ok (.ireturn, 1) := by decide +kernel
theorem d_Fl_property_89 : decode b_Fl_property 89 = .ok (.aload_n 0, 1) := by decide +kernel
theorem d_Fl_property_90 : decode b_Fl_property 90 = .ok (.getfield 12, 3) := by decide +kernel
theorem d_Fl_property_93 : decode b_Fl_property 93 = .ok (.getfield 121, 3) := by decide +kernel
theorem d_Fl_property_96 : decode b_Fl_property 96 = .ok (.iload_n 2, 1) := by decide +kernel
theorem d_Fl_property_97 : decode b_Fl_property 97 = .ok (.iaload, 1) := by decide +kernel
theorem d_Fl_property_98 : decode b_Fl_property 98 = .ok (.ireturn, 1) := by decide +kernel
theorem d_Fl_property_99 : decode b_Fl_property 99 = .ok (.aload_n 0, 1) := by decide +kernel
theorem d_Fl_property_100 : decode b_Fl_property 100 = .ok (.aload_n 1, 1) := by decide +kernel
theorem d_Fl_property_101 : decode b_Fl_property 101 = .ok (.iload_n 2, 1) := by decide +kernel
theorem d_Fl_property_102 : decode b_Fl_property 102 = .ok (.invokevirtual 75, 3) := by decide +kernel
theorem d_Fl_property_105 : decode b_Fl_property 105 = .ok (.ireturn, 1) := by decide +kernel
theorem d_Fl_property_106 : decode b_Fl_property 106 = .ok (.aload 4, 2) := by decide +kernel
theorem d_Fl_property_108 : decode b_Fl_property 108 = .ok (.getfield 52, 3) := by decide +kernel
theorem d_Fl_property_111 : decode b_Fl_property 111 = .ok (.ifCond .eq 7, 3) := by decide +kernel
theorem d_Fl_property_114 : decode b_Fl_property 114 = .ok (.iconst 1, 1) := by decide +kernel
theorem d_Fl_property_115 : decode b_Fl_property 115 = .ok (.goto 4, 3) := by decide +kernel
theorem d_Fl_property_118 : decode b_Fl_property 118 = .ok (.iconst 0, 1) := by decide +kernel
theorem d_Fl_property_119 : decode b_Fl_property 119 = .ok (.ireturn, 1) := by decide +kernel
theorem d_Fl_property_120 : decode b_Fl_property 120 = .ok (.aload 4, 2) := by decide +kernel
theorem d_Fl_property_122 : decode b_Fl_property 122 = .ok (.getfield 69, 3) := by decide +kernel
theorem d_Fl_property_125 : decode b_Fl_property 125 = .ok (.ireturn, 1) := by decide +kernel
theorem d_Fl_property_126 : decode b_Fl_property 126 = .ok (.aload 4, 2) := by decide +kernel
theorem d_Fl_property_128 : decode b_Fl_property 128 = .ok (.getfield 72, 3) := by decide +kernel
theorem d_Fl_property_131 : decode b_Fl_property 131 = .ok (.ireturn, 1) := by decide +kernel
theorem d_Fl_property_132 : decode b_Fl_property 132 = .ok (.aload 4, 2) := by decide +kernel
theorem d_Fl_property_134 : decode b_Fl_property 134 = .ok (.getfield 141, 3) := by decide +kernel
theorem d_Fl_property_137 : decode b_Fl_property 137 = .ok (.ireturn, 1) := by decide +kernel
theorem d_Fl_property_138 : decode b_Fl_property 138 = .ok (.aload 4, 2) := by decide +kernel
theorem d_Fl_property_140 : decode b_Fl_property 140 = .ok (.getfield 144, 3) := by decide +kernel
theorem d_Fl_property_143 : decode b_Fl_property 143 = .ok (.ireturn, 1) := by decide +kernel
theorem d_Fl_property_144 : decode b_Fl_property 144 = .ok (.aload 4, 2) := by decide +kernel
theorem d_Fl_property_146 : decode b_Fl_property 146 = .ok (.getfield 102, 3) := by decide +kernel
theorem d_Fl_property_149 : decode b_Fl_property 149 = .ok (.ireturn, 1) := by decide +kernel
theorem d_Fl_property_150 : decode b_Fl_property 150 = .ok (.aload 4, 2) := by decide +kernel
theorem d_Fl_property_152 : decode b_Fl_property 152 = .ok (.iload_n 2, 1) := by decide +kernel
theorem d_Fl_property_153 : decode b_Fl_property 153 = .ok (.aload_n 0, 1) := by decide +kernel
theorem d_Fl_property_154 : decode b_Fl_property 154 = .ok (.aload_n 1, 1) := by decide +kernel
theorem d_Fl_property_155 : decode b_Fl_property 155 = .ok (.iload_n 2, 1) := by decide +kernel
theorem d_Fl_property_156 : decode b_Fl_property 156 = .ok (.invokevirtual 75, 3) := by decide +kernel
theorem d_Fl_property_159 : decode b_Fl_property 159 = .ok (.invokevirtual 79, 3) := by decide +kernel
theorem d_Fl_property_162 : decode b_Fl_property 162 = .ok (.ireturn, 1) := by decide +kernel
theorem d_Fl_property_163 : decode b_Fl_property 163 = .ok (.aload_n 0, 1) := by decide +kernel
theorem d_Fl_property_164 : decode b_Fl_property 164 = .ok (.aload_n 1, 1) := by decide +kernel
theorem d_Fl_property_165 : decode b_Fl_property 165 = .ok (.iload_n 2, 1) := by decide +kernel
theorem d_Fl_property_166 : decode b_Fl_property 166 = .ok (.invokevirtual 134, 3) := by decide +kernel
theorem d_Fl_property_169 : decode b_Fl_property 169 = .ok (.ireturn, 1) := by decide +kernel
abbrev b_TF_node : ByteArray := prog_1_method_7_code
abbrev y_TF_node : MethodName := ⟨"TimeFlood", "node", "(II)I"⟩
theorem m_TF_node : MWV y_TF_node b_TF_node 3 (Option.some FieldType.int) 2 := ⟨wd_422, wd_423, wd_1, wd_424, by decide, by decide, by decide +kernel⟩
theorem d_TF_node_0 : decode b_TF_node 0 = .ok (.aload_n 0, 1) := by decide +kernel
theorem d_TF_node_1 : decode b_TF_node 1 = .ok (.iload_n 1, 1) := by decide +kernel
theorem d_TF_node_2 : decode b_TF_node 2 = .ok (.invokevirtual 131, 3) := by decide +kernel
theorem d_TF_node_5 : decode b_TF_node 5 = .ok (.ifCond .ne 5, 3) := by decide +kernel
theorem d_TF_node_8 : decode b_TF_node 8 = .ok (.iconst (-1), 1) := by decide +kernel
theorem d_TF_node_9 : decode b_TF_node 9 = .ok (.ireturn, 1) := by decide +kernel
theorem d_TF_node_10 : decode b_TF_node 10 = .ok (.iload_n 2, 1) := by decide +kernel
theorem d_TF_node_11 : decode b_TF_node 11 = .ok (.ifCond .lt 9, 3) := by decide +kernel
theorem d_TF_node_14 : decode b_TF_node 14 = .ok (.iload_n 2, 1) := by decide +kernel
theorem d_TF_node_15 : decode b_TF_node 15 = .ok (.bipush 10, 2) := by decide +kernel
theorem d_TF_node_17 : decode b_TF_node 17 = .ok (.if_icmp .le 6, 3) := by decide +kernel
theorem d_TF_node_20 : decode b_TF_node 20 = .ok (.bipush (-2), 2) := by decide +kernel
theorem d_TF_node_22 : decode b_TF_node 22 = .ok (.ireturn, 1) := by decide +kernel
theorem d_TF_node_23 : decode b_TF_node 23 = .ok (.aload_n 0, 1) := by decide +kernel
theorem d_TF_node_24 : decode b_TF_node 24 = .ok (.getfield 27, 3) := by decide +kernel
theorem d_TF_node_27 : decode b_TF_node 27 = .ok (.aload_n 0, 1) := by decide +kernel
theorem d_TF_node_28 : decode b_TF_node 28 = .ok (.getfield 39, 3) := by decide +kernel
theorem d_TF_node_31 : decode b_TF_node 31 = .ok (.iload_n 1, 1) := by decide +kernel
theorem d_TF_node_32 : decode b_TF_node 32 = .ok (.iload_n 2, 1) := by decide +kernel
theorem d_TF_node_33 : decode b_TF_node 33 = .ok (.invokevirtual 135, 3) := by decide +kernel
theorem d_TF_node_36 : decode b_TF_node 36 = .ok (.ireturn, 1) := by decide +kernel
abbrev b_Nd_stampPart : ByteArray := prog_4_method_5_code
abbrev y_Nd_stampPart : MethodName := ⟨"TimeFlood$Node", "stampPart", "(II)I"⟩
theorem m_Nd_stampPart : MWV y_Nd_stampPart b_Nd_stampPart 3 (Option.some FieldType.int) 2 := ⟨wd_438, wd_439, wd_6, wd_440, by decide, by decide, by decide +kernel⟩
theorem d_Nd_stampPart_0 : decode b_Nd_stampPart 0 = .ok (.iload_n 1, 1) := by decide +kernel
theorem d_Nd_stampPart_1 : decode b_Nd_stampPart 1 = .ok (.ifCond .lt 16, 3) := by decide +kernel
theorem d_Nd_stampPart_4 : decode b_Nd_stampPart 4 = .ok (.iload_n 1, 1) := by decide +kernel
theorem d_Nd_stampPart_5 : decode b_Nd_stampPart 5 = .ok (.aload_n 0, 1) := by decide +kernel
theorem d_Nd_stampPart_6 : decode b_Nd_stampPart 6 = .ok (.getfield 31, 3) := by decide +kernel
theorem d_Nd_stampPart_9 : decode b_Nd_stampPart 9 = .ok (.if_icmp .ge 8, 3) := by decide +kernel
theorem d_Nd_stampPart_12 : decode b_Nd_stampPart 12 = .ok (.iload_n 1, 1) := by decide +kernel
theorem d_Nd_stampPart_13 : decode b_Nd_stampPart 13 = .ok (.iconst 4, 1) := by decide +kernel
theorem d_Nd_stampPart_14 : decode b_Nd_stampPart 14 = .ok (.if_icmp .lt 6, 3) := by decide +kernel
theorem d_Nd_stampPart_17 : decode b_Nd_stampPart 17 = .ok (.bipush (-9), 2) := by decide +kernel
theorem d_Nd_stampPart_19 : decode b_Nd_stampPart 19 = .ok (.ireturn, 1) := by decide +kernel
theorem d_Nd_stampPart_20 : decode b_Nd_stampPart 20 = .ok (.iload_n 2, 1) := by decide +kernel
theorem d_Nd_stampPart_21 : decode b_Nd_stampPart 21 = .ok (.lookupswitch 41 #[(0, 27), (1, 34)], 27) := by decide +kernel
theorem d_Nd_stampPart_48 : decode b_Nd_stampPart 48 = .ok (.aload_n 0, 1) := by decide +kernel
theorem d_Nd_stampPart_49 : decode b_Nd_stampPart 49 = .ok (.getfield 34, 3) := by decide +kernel
theorem d_Nd_stampPart_52 : decode b_Nd_stampPart 52 = .ok (.iload_n 1, 1) := by decide +kernel
theorem d_Nd_stampPart_53 : decode b_Nd_stampPart 53 = .ok (.iaload, 1) := by decide +kernel
theorem d_Nd_stampPart_54 : decode b_Nd_stampPart 54 = .ok (.ireturn, 1) := by decide +kernel
theorem d_Nd_stampPart_55 : decode b_Nd_stampPart 55 = .ok (.aload_n 0, 1) := by decide +kernel
theorem d_Nd_stampPart_56 : decode b_Nd_stampPart 56 = .ok (.getfield 38, 3) := by decide +kernel
theorem d_Nd_stampPart_59 : decode b_Nd_stampPart 59 = .ok (.iload_n 1, 1) := by decide +kernel
theorem d_Nd_stampPart_60 : decode b_Nd_stampPart 60 = .ok (.iaload, 1) := by decide +kernel
theorem d_Nd_stampPart_61 : decode b_Nd_stampPart 61 = .ok (.ireturn, 1) := by decide +kernel
theorem d_Nd_stampPart_62 : decode b_Nd_stampPart 62 = .ok (.aload_n 0, 1) := by decide +kernel
theorem d_Nd_stampPart_63 : decode b_Nd_stampPart 63 = .ok (.getfield 41, 3) := by decide +kernel
theorem d_Nd_stampPart_66 : decode b_Nd_stampPart 66 = .ok (.iload_n 1, 1) := by decide +kernel
theorem d_Nd_stampPart_67 : decode b_Nd_stampPart 67 = .ok (.iaload, 1) := by decide +kernel
theorem d_Nd_stampPart_68 : decode b_Nd_stampPart 68 = .ok (.ireturn, 1) := by decide +kernel
abbrev b_TF_stamp : ByteArray := prog_1_method_8_code
abbrev y_TF_stamp : MethodName := ⟨"TimeFlood", "stamp", "(III)I"⟩
theorem m_TF_stamp : MWV y_TF_stamp b_TF_stamp 4 (Option.some FieldType.int) 3 := ⟨wd_434, wd_435, wd_1, wd_436, by decide, by decide, by decide +kernel⟩
theorem d_TF_stamp_0 : decode b_TF_stamp 0 = .ok (.aload_n 0, 1) := by decide +kernel
theorem d_TF_stamp_1 : decode b_TF_stamp 1 = .ok (.iload_n 1, 1) := by decide +kernel
theorem d_TF_stamp_2 : decode b_TF_stamp 2 = .ok (.invokevirtual 131, 3) := by decide +kernel
theorem d_TF_stamp_5 : decode b_TF_stamp 5 = .ok (.ifCond .ne 5, 3) := by decide +kernel
theorem d_TF_stamp_8 : decode b_TF_stamp 8 = .ok (.iconst (-1), 1) := by decide +kernel
theorem d_TF_stamp_9 : decode b_TF_stamp 9 = .ok (.ireturn, 1) := by decide +kernel
theorem d_TF_stamp_10 : decode b_TF_stamp 10 = .ok (.iload_n 3, 1) := by decide +kernel
theorem d_TF_stamp_11 : decode b_TF_stamp 11 = .ok (.ifCond .lt 8, 3) := by decide +kernel
theorem d_TF_stamp_14 : decode b_TF_stamp 14 = .ok (.iload_n 3, 1) := by decide +kernel
theorem d_TF_stamp_15 : decode b_TF_stamp 15 = .ok (.iconst 2, 1) := by decide +kernel
theorem d_TF_stamp_16 : decode b_TF_stamp 16 = .ok (.if_icmp .le 6, 3) := by decide +kernel
theorem d_TF_stamp_19 : decode b_TF_stamp 19 = .ok (.bipush (-2), 2) := by decide +kernel
theorem d_TF_stamp_21 : decode b_TF_stamp 21 = .ok (.ireturn, 1) := by decide +kernel
theorem d_TF_stamp_22 : decode b_TF_stamp 22 = .ok (.aload_n 0, 1) := by decide +kernel
theorem d_TF_stamp_23 : decode b_TF_stamp 23 = .ok (.getfield 39, 3) := by decide +kernel
theorem d_TF_stamp_26 : decode b_TF_stamp 26 = .ok (.getfield 139, 3) := by decide +kernel
theorem d_TF_stamp_29 : decode b_TF_stamp 29 = .ok (.iload_n 1, 1) := by decide +kernel
theorem d_TF_stamp_30 : decode b_TF_stamp 30 = .ok (.aaload, 1) := by decide +kernel
theorem d_TF_stamp_31 : decode b_TF_stamp 31 = .ok (.getfield 143, 3) := by decide +kernel
theorem d_TF_stamp_34 : decode b_TF_stamp 34 = .ok (.ifCond .ne 6, 3) := by decide +kernel
theorem d_TF_stamp_37 : decode b_TF_stamp 37 = .ok (.bipush (-9), 2) := by decide +kernel
theorem d_TF_stamp_39 : decode b_TF_stamp 39 = .ok (.ireturn, 1) := by decide +kernel
theorem d_TF_stamp_40 : decode b_TF_stamp 40 = .ok (.aload_n 0, 1) := by decide +kernel
theorem d_TF_stamp_41 : decode b_TF_stamp 41 = .ok (.getfield 39, 3) := by decide +kernel
theorem d_TF_stamp_44 : decode b_TF_stamp 44 = .ok (.getfield 139, 3) := by decide +kernel
theorem d_TF_stamp_47 : decode b_TF_stamp 47 = .ok (.iload_n 1, 1) := by decide +kernel
theorem d_TF_stamp_48 : decode b_TF_stamp 48 = .ok (.aaload, 1) := by decide +kernel
theorem d_TF_stamp_49 : decode b_TF_stamp 49 = .ok (.iload_n 2, 1) := by decide +kernel
theorem d_TF_stamp_50 : decode b_TF_stamp 50 = .ok (.iload_n 3, 1) := by decide +kernel
theorem d_TF_stamp_51 : decode b_TF_stamp 51 = .ok (.invokevirtual 149, 3) := by decide +kernel
theorem d_TF_stamp_54 : decode b_TF_stamp 54 = .ok (.ireturn, 1) := by decide +kernel
abbrev b_TF_hasLink : ByteArray := prog_1_method_28_code
abbrev y_TF_hasLink : MethodName := ⟨"TimeFlood", "hasLink", "(I)Z"⟩
theorem m_TF_hasLink : MWV y_TF_hasLink b_TF_hasLink 2 (Option.some FieldType.boolean) 1 := ⟨wd_447, wp_5, wd_1, wd_448, by decide, by decide, by decide +kernel⟩
theorem d_TF_hasLink_0 : decode b_TF_hasLink 0 = .ok (.iload_n 1, 1) := by decide +kernel
theorem d_TF_hasLink_1 : decode b_TF_hasLink 1 = .ok (.ifCond .lt 18, 3) := by decide +kernel
theorem d_TF_hasLink_4 : decode b_TF_hasLink 4 = .ok (.iload_n 1, 1) := by decide +kernel
theorem d_TF_hasLink_5 : decode b_TF_hasLink 5 = .ok (.aload_n 0, 1) := by decide +kernel
theorem d_TF_hasLink_6 : decode b_TF_hasLink 6 = .ok (.getfield 35, 3) := by decide +kernel
theorem d_TF_hasLink_9 : decode b_TF_hasLink 9 = .ok (.getfield 94, 3) := by decide +kernel
theorem d_TF_hasLink_12 : decode b_TF_hasLink 12 = .ok (.if_icmp .ge 7, 3) := by decide +kernel
theorem d_TF_hasLink_15 : decode b_TF_hasLink 15 = .ok (.iconst 1, 1) := by decide +kernel
theorem d_TF_hasLink_16 : decode b_TF_hasLink 16 = .ok (.goto 4, 3) := by decide +kernel
theorem d_TF_hasLink_19 : decode b_TF_hasLink 19 = .ok (.iconst 0, 1) := by decide +kernel
theorem d_TF_hasLink_20 : decode b_TF_hasLink 20 = .ok (.ireturn, 1) := by decide +kernel
abbrev b_St_isDown : ByteArray := prog_8_method_4_code
abbrev y_St_isDown : MethodName := ⟨"TimeFlood$State", "isDown", "(I)Z"⟩
theorem m_St_isDown : MWV y_St_isDown b_St_isDown 2 (Option.some FieldType.boolean) 1 := ⟨wd_450, wd_451, wd_5, wd_452, by decide, by decide, by decide +kernel⟩
theorem d_St_isDown_0 : decode b_St_isDown 0 = .ok (.aload_n 0, 1) := by decide +kernel
theorem d_St_isDown_1 : decode b_St_isDown 1 = .ok (.getfield 15, 3) := by decide +kernel
theorem d_St_isDown_4 : decode b_St_isDown 4 = .ok (.iload_n 1, 1) := by decide +kernel
theorem d_St_isDown_5 : decode b_St_isDown 5 = .ok (.ishr, 1) := by decide +kernel
theorem d_St_isDown_6 : decode b_St_isDown 6 = .ok (.iconst 1, 1) := by decide +kernel
theorem d_St_isDown_7 : decode b_St_isDown 7 = .ok (.iand, 1) := by decide +kernel
theorem d_St_isDown_8 : decode b_St_isDown 8 = .ok (.iconst 1, 1) := by decide +kernel
theorem d_St_isDown_9 : decode b_St_isDown 9 = .ok (.if_icmp .ne 7, 3) := by decide +kernel
theorem d_St_isDown_12 : decode b_St_isDown 12 = .ok (.iconst 1, 1) := by decide +kernel
theorem d_St_isDown_13 : decode b_St_isDown 13 = .ok (.goto 4, 3) := by decide +kernel
theorem d_St_isDown_16 : decode b_St_isDown 16 = .ok (.iconst 0, 1) := by decide +kernel
theorem d_St_isDown_17 : decode b_St_isDown 17 = .ok (.ireturn, 1) := by decide +kernel
abbrev b_TF_link : ByteArray := prog_1_method_9_code
abbrev y_TF_link : MethodName := ⟨"TimeFlood", "link", "(II)I"⟩
theorem m_TF_link : MWV y_TF_link b_TF_link 3 (Option.some FieldType.int) 2 := ⟨wd_442, wd_443, wd_1, wd_444, by decide, by decide, by decide +kernel⟩
theorem d_TF_link_0 : decode b_TF_link 0 = .ok (.aload_n 0, 1) := by decide +kernel
theorem d_TF_link_1 : decode b_TF_link 1 = .ok (.iload_n 1, 1) := by decide +kernel
theorem d_TF_link_2 : decode b_TF_link 2 = .ok (.invokevirtual 153, 3) := by decide +kernel
theorem d_TF_link_5 : decode b_TF_link 5 = .ok (.ifCond .ne 5, 3) := by decide +kernel
theorem d_TF_link_8 : decode b_TF_link 8 = .ok (.iconst (-1), 1) := by decide +kernel
theorem d_TF_link_9 : decode b_TF_link 9 = .ok (.ireturn, 1) := by decide +kernel
theorem d_TF_link_10 : decode b_TF_link 10 = .ok (.iload_n 2, 1) := by decide +kernel
theorem d_TF_link_11 : decode b_TF_link 11 = .ok (.tableswitch 62 0 2 #[25, 35, 45], 25) := by decide +kernel
theorem d_TF_link_36 : decode b_TF_link 36 = .ok (.aload_n 0, 1) := by decide +kernel
theorem d_TF_link_37 : decode b_TF_link 37 = .ok (.getfield 35, 3) := by decide +kernel
theorem d_TF_link_40 : decode b_TF_link 40 = .ok (.getfield 156, 3) := by decide +kernel
theorem d_TF_link_43 : decode b_TF_link 43 = .ok (.iload_n 1, 1) := by decide +kernel
theorem d_TF_link_44 : decode b_TF_link 44 = .ok (.iaload, 1) := by decide +kernel
theorem d_TF_link_45 : decode b_TF_link 45 = .ok (.ireturn, 1) := by decide +kernel
theorem d_TF_link_46 : decode b_TF_link 46 = .ok (.aload_n 0, 1) := by decide +kernel
theorem d_TF_link_47 : decode b_TF_link 47 = .ok (.getfield 35, 3) := by decide +kernel
theorem d_TF_link_50 : decode b_TF_link 50 = .ok (.getfield 160, 3) := by decide +kernel
theorem d_TF_link_53 : decode b_TF_link 53 = .ok (.iload_n 1, 1) := by decide +kernel
theorem d_TF_link_54 : decode b_TF_link 54 = .ok (.iaload, 1) := by decide +kernel
theorem d_TF_link_55 : decode b_TF_link 55 = .ok (.ireturn, 1) := by decide +kernel
theorem d_TF_link_56 : decode b_TF_link 56 = .ok (.aload_n 0, 1) := by decide +kernel
theorem d_TF_link_57 : decode b_TF_link 57 = .ok (.getfield 39, 3) := by decide +kernel
theorem d_TF_link_60 : decode b_TF_link 60 = .ok (.iload_n 1, 1) := by decide +kernel
theorem d_TF_link_61 : decode b_TF_link 61 = .ok (.invokevirtual 163, 3) := by decide +kernel
theorem d_TF_link_64 : decode b_TF_link 64 = .ok (.ifCond .eq 7, 3) := by decide +kernel
theorem d_TF_link_67 : decode b_TF_link 67 = .ok (.iconst 1, 1) := by decide +kernel
theorem d_TF_link_68 : decode b_TF_link 68 = .ok (.goto 4, 3) := by decide +kernel
theorem d_TF_link_71 : decode b_TF_link 71 = .ok (.iconst 0, 1) := by decide +kernel
theorem d_TF_link_72 : decode b_TF_link 72 = .ok (.ireturn, 1) := by decide +kernel
theorem d_TF_link_73 : decode b_TF_link 73 = .ok (.bipush (-2), 2) := by decide +kernel
theorem d_TF_link_75 : decode b_TF_link 75 = .ok (.ireturn, 1) := by decide +kernel
abbrev b_Nd_copyFrom : ByteArray := prog_4_method_2_code
abbrev y_Nd_copyFrom : MethodName := ⟨"TimeFlood$Node", "copyFrom", "(LTimeFlood$Node;)V"⟩
theorem m_Nd_copyFrom : MWV y_Nd_copyFrom b_Nd_copyFrom 2 none 1 := ⟨wd_466, wd_467, wd_6, wd_468, by decide, by decide, by decide +kernel⟩
theorem d_Nd_copyFrom_0 : decode b_Nd_copyFrom 0 = .ok (.aload_n 0, 1) := by decide +kernel
theorem d_Nd_copyFrom_1 : decode b_Nd_copyFrom 1 = .ok (.aload_n 1, 1) := by decide +kernel
theorem d_Nd_copyFrom_2 : decode b_Nd_copyFrom 2 = .ok (.getfield 9, 3) := by decide +kernel
theorem d_Nd_copyFrom_5 : decode b_Nd_copyFrom 5 = .ok (.putfield 9, 3) := by decide +kernel
theorem d_Nd_copyFrom_8 : decode b_Nd_copyFrom 8 = .ok (.aload_n 0, 1) := by decide +kernel
theorem d_Nd_copyFrom_9 : decode b_Nd_copyFrom 9 = .ok (.aload_n 1, 1) := by decide +kernel
theorem d_Nd_copyFrom_10 : decode b_Nd_copyFrom 10 = .ok (.getfield 15, 3) := by decide +kernel
theorem d_Nd_copyFrom_13 : decode b_Nd_copyFrom 13 = .ok (.putfield 15, 3) := by decide +kernel
theorem d_Nd_copyFrom_16 : decode b_Nd_copyFrom 16 = .ok (.aload_n 0, 1) := by decide +kernel
theorem d_Nd_copyFrom_17 : decode b_Nd_copyFrom 17 = .ok (.aload_n 1, 1) := by decide +kernel
theorem d_Nd_copyFrom_18 : decode b_Nd_copyFrom 18 = .ok (.getfield 19, 3) := by decide +kernel
theorem d_Nd_copyFrom_21 : decode b_Nd_copyFrom 21 = .ok (.putfield 19, 3) := by decide +kernel
theorem d_Nd_copyFrom_24 : decode b_Nd_copyFrom 24 = .ok (.aload_n 0, 1) := by decide +kernel
theorem d_Nd_copyFrom_25 : decode b_Nd_copyFrom 25 = .ok (.aload_n 1, 1) := by decide +kernel
theorem d_Nd_copyFrom_26 : decode b_Nd_copyFrom 26 = .ok (.getfield 22, 3) := by decide +kernel
theorem d_Nd_copyFrom_29 : decode b_Nd_copyFrom 29 = .ok (.putfield 22, 3) := by decide +kernel
theorem d_Nd_copyFrom_32 : decode b_Nd_copyFrom 32 = .ok (.aload_n 0, 1) := by decide +kernel
theorem d_Nd_copyFrom_33 : decode b_Nd_copyFrom 33 = .ok (.aload_n 1, 1) := by decide +kernel
theorem d_Nd_copyFrom_34 : decode b_Nd_copyFrom 34 = .ok (.getfield 25, 3) := by decide +kernel
theorem d_Nd_copyFrom_37 : decode b_Nd_copyFrom 37 = .ok (.putfield 25, 3) := by decide +kernel
theorem d_Nd_copyFrom_40 : decode b_Nd_copyFrom 40 = .ok (.aload_n 0, 1) := by decide +kernel
theorem d_Nd_copyFrom_41 : decode b_Nd_copyFrom 41 = .ok (.aload_n 1, 1) := by decide +kernel
theorem d_Nd_copyFrom_42 : decode b_Nd_copyFrom 42 = .ok (.getfield 28, 3) := by decide +kernel
theorem d_Nd_copyFrom_45 : decode b_Nd_copyFrom 45 = .ok (.putfield 28, 3) := by decide +kernel
theorem d_Nd_copyFrom_48 : decode b_Nd_copyFrom 48 = .ok (.aload_n 0, 1) := by decide +kernel
theorem d_Nd_copyFrom_49 : decode b_Nd_copyFrom 49 = .ok (.aload_n 1, 1) := by decide +kernel
theorem d_Nd_copyFrom_50 : decode b_Nd_copyFrom 50 = .ok (.getfield 31, 3) := by decide +kernel
theorem d_Nd_copyFrom_53 : decode b_Nd_copyFrom 53 = .ok (.putfield 31, 3) := by decide +kernel
theorem d_Nd_copyFrom_56 : decode b_Nd_copyFrom 56 = .ok (.aload_n 1, 1) := by decide +kernel
theorem d_Nd_copyFrom_57 : decode b_Nd_copyFrom 57 = .ok (.getfield 34, 3) := by decide +kernel
theorem d_Nd_copyFrom_60 : decode b_Nd_copyFrom 60 = .ok (.iconst 0, 1) := by decide +kernel
theorem d_Nd_copyFrom_61 : decode b_Nd_copyFrom 61 = .ok (.aload_n 0, 1) := by decide +kernel
theorem d_Nd_copyFrom_62 : decode b_Nd_copyFrom 62 = .ok (.getfield 34, 3) := by decide +kernel
theorem d_Nd_copyFrom_65 : decode b_Nd_copyFrom 65 = .ok (.iconst 0, 1) := by decide +kernel
theorem d_Nd_copyFrom_66 : decode b_Nd_copyFrom 66 = .ok (.iconst 4, 1) := by decide +kernel
theorem d_Nd_copyFrom_67 : decode b_Nd_copyFrom 67 = .ok (.invokestatic 44, 3) := by decide +kernel
theorem d_Nd_copyFrom_70 : decode b_Nd_copyFrom 70 = .ok (.aload_n 1, 1) := by decide +kernel
theorem d_Nd_copyFrom_71 : decode b_Nd_copyFrom 71 = .ok (.getfield 38, 3) := by decide +kernel
theorem d_Nd_copyFrom_74 : decode b_Nd_copyFrom 74 = .ok (.iconst 0, 1) := by decide +kernel
theorem d_Nd_copyFrom_75 : decode b_Nd_copyFrom 75 = .ok (.aload_n 0, 1) := by decide +kernel
theorem d_Nd_copyFrom_76 : decode b_Nd_copyFrom 76 = .ok (.getfield 38, 3) := by decide +kernel
theorem d_Nd_copyFrom_79 : decode b_Nd_copyFrom 79 = .ok (.iconst 0, 1) := by decide +kernel
theorem d_Nd_copyFrom_80 : decode b_Nd_copyFrom 80 = .ok (.iconst 4, 1) := by decide +kernel
theorem d_Nd_copyFrom_81 : decode b_Nd_copyFrom 81 = .ok (.invokestatic 44, 3) := by decide +kernel
theorem d_Nd_copyFrom_84 : decode b_Nd_copyFrom 84 = .ok (.aload_n 1, 1) := by decide +kernel
theorem d_Nd_copyFrom_85 : decode b_Nd_copyFrom 85 = .ok (.getfield 41, 3) := by decide +kernel
theorem d_Nd_copyFrom_88 : decode b_Nd_copyFrom 88 = .ok (.iconst 0, 1) := by decide +kernel
theorem d_Nd_copyFrom_89 : decode b_Nd_copyFrom 89 = .ok (.aload_n 0, 1) := by decide +kernel
theorem d_Nd_copyFrom_90 : decode b_Nd_copyFrom 90 = .ok (.getfield 41, 3) := by decide +kernel
theorem d_Nd_copyFrom_93 : decode b_Nd_copyFrom 93 = .ok (.iconst 0, 1) := by decide +kernel
theorem d_Nd_copyFrom_94 : decode b_Nd_copyFrom 94 = .ok (.iconst 4, 1) := by decide +kernel
theorem d_Nd_copyFrom_95 : decode b_Nd_copyFrom 95 = .ok (.invokestatic 44, 3) := by decide +kernel
theorem d_Nd_copyFrom_98 : decode b_Nd_copyFrom 98 = .ok (.return_, 1) := by decide +kernel
abbrev b_St_copyFrom : ByteArray := prog_8_method_2_code
abbrev y_St_copyFrom : MethodName := ⟨"TimeFlood$State", "copyFrom", "(LTimeFlood$State;)V"⟩
theorem m_St_copyFrom : MWV y_St_copyFrom b_St_copyFrom 3 none 1 := ⟨wd_462, wd_463, wd_5, wd_464, by decide, by decide, by decide +kernel⟩
theorem d_St_copyFrom_0 : decode b_St_copyFrom 0 = .ok (.aload_n 0, 1) := by decide +kernel
theorem d_St_copyFrom_1 : decode b_St_copyFrom 1 = .ok (.aload_n 1, 1) := by decide +kernel
theorem d_St_copyFrom_2 : decode b_St_copyFrom 2 = .ok (.getfield 9, 3) := by decide +kernel
theorem d_St_copyFrom_5 : decode b_St_copyFrom 5 = .ok (.putfield 9, 3) := by decide +kernel
theorem d_St_copyFrom_8 : decode b_St_copyFrom 8 = .ok (.aload_n 0, 1) := by decide +kernel
theorem d_St_copyFrom_9 : decode b_St_copyFrom 9 = .ok (.aload_n 1, 1) := by decide +kernel
theorem d_St_copyFrom_10 : decode b_St_copyFrom 10 = .ok (.getfield 15, 3) := by decide +kernel
theorem d_St_copyFrom_13 : decode b_St_copyFrom 13 = .ok (.putfield 15, 3) := by decide +kernel
theorem d_St_copyFrom_16 : decode b_St_copyFrom 16 = .ok (.iconst 0, 1) := by decide +kernel
theorem d_St_copyFrom_17 : decode b_St_copyFrom 17 = .ok (.istore_n 2, 1) := by decide +kernel
theorem d_St_copyFrom_18 : decode b_St_copyFrom 18 = .ok (.iload_n 2, 1) := by decide +kernel
theorem d_St_copyFrom_19 : decode b_St_copyFrom 19 = .ok (.iconst 5, 1) := by decide +kernel
theorem d_St_copyFrom_20 : decode b_St_copyFrom 20 = .ok (.if_icmp .ge 24, 3) := by decide +kernel
theorem d_St_copyFrom_23 : decode b_St_copyFrom 23 = .ok (.aload_n 0, 1) := by decide +kernel
theorem d_St_copyFrom_24 : decode b_St_copyFrom 24 = .ok (.getfield 20, 3) := by decide +kernel
theorem d_St_copyFrom_27 : decode b_St_copyFrom 27 = .ok (.iload_n 2, 1) := by decide +kernel
theorem d_St_copyFrom_28 : decode b_St_copyFrom 28 = .ok (.aaload, 1) := by decide +kernel
theorem d_St_copyFrom_29 : decode b_St_copyFrom 29 = .ok (.aload_n 1, 1) := by decide +kernel
theorem d_St_copyFrom_30 : decode b_St_copyFrom 30 = .ok (.getfield 20, 3) := by decide +kernel
theorem d_St_copyFrom_33 : decode b_St_copyFrom 33 = .ok (.iload_n 2, 1) := by decide +kernel
theorem d_St_copyFrom_34 : decode b_St_copyFrom 34 = .ok (.aaload, 1) := by decide +kernel
theorem d_St_copyFrom_35 : decode b_St_copyFrom 35 = .ok (.invokevirtual 25, 3) := by decide +kernel
theorem d_St_copyFrom_38 : decode b_St_copyFrom 38 = .ok (.iinc 2 1, 3) := by decide +kernel
theorem d_St_copyFrom_41 : decode b_St_copyFrom 41 = .ok (.goto (-23), 3) := by decide +kernel
theorem d_St_copyFrom_44 : decode b_St_copyFrom 44 = .ok (.return_, 1) := by decide +kernel
abbrev b_Jr_push : ByteArray := prog_3_method_3_code
abbrev y_Jr_push : MethodName := ⟨"TimeFlood$Journal", "push", "(LTimeFlood$State;)V"⟩
theorem m_Jr_push : MWV y_Jr_push b_Jr_push 2 none 1 := ⟨wd_458, wd_459, wd_7, wd_460, by decide, by decide, by decide +kernel⟩
theorem d_Jr_push_0 : decode b_Jr_push 0 = .ok (.aload_n 0, 1) := by decide +kernel
theorem d_Jr_push_1 : decode b_Jr_push 1 = .ok (.getfield 11, 3) := by decide +kernel
theorem d_Jr_push_4 : decode b_Jr_push 4 = .ok (.aload_n 0, 1) := by decide +kernel
theorem d_Jr_push_5 : decode b_Jr_push 5 = .ok (.getfield 17, 3) := by decide +kernel
theorem d_Jr_push_8 : decode b_Jr_push 8 = .ok (.aaload, 1) := by decide +kernel
theorem d_Jr_push_9 : decode b_Jr_push 9 = .ok (.aload_n 1, 1) := by decide +kernel
theorem d_Jr_push_10 : decode b_Jr_push 10 = .ok (.invokevirtual 25, 3) := by decide +kernel
theorem d_Jr_push_13 : decode b_Jr_push 13 = .ok (.aload_n 0, 1) := by decide +kernel
theorem d_Jr_push_14 : decode b_Jr_push 14 = .ok (.aload_n 0, 1) := by decide +kernel
theorem d_Jr_push_15 : decode b_Jr_push 15 = .ok (.getfield 17, 3) := by decide +kernel
theorem d_Jr_push_18 : decode b_Jr_push 18 = .ok (.iconst 1, 1) := by decide +kernel
theorem d_Jr_push_19 : decode b_Jr_push 19 = .ok (.iadd, 1) := by decide +kernel
theorem d_Jr_push_20 : decode b_Jr_push 20 = .ok (.bipush 14, 2) := by decide +kernel
theorem d_Jr_push_22 : decode b_Jr_push 22 = .ok (.irem, 1) := by decide +kernel
theorem d_Jr_push_23 : decode b_Jr_push 23 = .ok (.putfield 17, 3) := by decide +kernel
theorem d_Jr_push_26 : decode b_Jr_push 26 = .ok (.aload_n 0, 1) := by decide +kernel
theorem d_Jr_push_27 : decode b_Jr_push 27 = .ok (.aload_n 0, 1) := by decide +kernel
theorem d_Jr_push_28 : decode b_Jr_push 28 = .ok (.getfield 21, 3) := by decide +kernel
theorem d_Jr_push_31 : decode b_Jr_push 31 = .ok (.iconst 1, 1) := by decide +kernel
theorem d_Jr_push_32 : decode b_Jr_push 32 = .ok (.iadd, 1) := by decide +kernel
theorem d_Jr_push_33 : decode b_Jr_push 33 = .ok (.bipush 14, 2) := by decide +kernel
theorem d_Jr_push_35 : decode b_Jr_push 35 = .ok (.invokestatic 29, 3) := by decide +kernel
theorem d_Jr_push_38 : decode b_Jr_push 38 = .ok (.putfield 21, 3) := by decide +kernel
theorem d_Jr_push_41 : decode b_Jr_push 41 = .ok (.return_, 1) := by decide +kernel
abbrev b_Nd_grow : ByteArray := prog_4_method_6_code
abbrev y_Nd_grow : MethodName := ⟨"TimeFlood$Node", "grow", "()V"⟩
theorem m_Nd_grow : MWV y_Nd_grow b_Nd_grow 3 none 0 := ⟨wd_482, wd_483, wd_6, wd_484, by decide, by decide, by decide +kernel⟩
theorem d_Nd_grow_0 : decode b_Nd_grow 0 = .ok (.iconst 0, 1) := by decide +kernel
theorem d_Nd_grow_1 : decode b_Nd_grow 1 = .ok (.istore_n 1, 1) := by decide +kernel
theorem d_Nd_grow_2 : decode b_Nd_grow 2 = .ok (.iconst 0, 1) := by decide +kernel
theorem d_Nd_grow_3 : decode b_Nd_grow 3 = .ok (.istore_n 2, 1) := by decide +kernel
theorem d_Nd_grow_4 : decode b_Nd_grow 4 = .ok (.iload_n 2, 1) := by decide +kernel
theorem d_Nd_grow_5 : decode b_Nd_grow 5 = .ok (.aload_n 0, 1) := by decide +kernel
theorem d_Nd_grow_6 : decode b_Nd_grow 6 = .ok (.getfield 31, 3) := by decide +kernel
theorem d_Nd_grow_9 : decode b_Nd_grow 9 = .ok (.if_icmp .ge 66, 3) := by decide +kernel
theorem d_Nd_grow_12 : decode b_Nd_grow 12 = .ok (.iload_n 2, 1) := by decide +kernel
theorem d_Nd_grow_13 : decode b_Nd_grow 13 = .ok (.iconst 4, 1) := by decide +kernel
theorem d_Nd_grow_14 : decode b_Nd_grow 14 = .ok (.if_icmp .ge 61, 3) := by decide +kernel
theorem d_Nd_grow_17 : decode b_Nd_grow 17 = .ok (.aload_n 0, 1) := by decide +kernel
theorem d_Nd_grow_18 : decode b_Nd_grow 18 = .ok (.getfield 41, 3) := by decide +kernel
theorem d_Nd_grow_21 : decode b_Nd_grow 21 = .ok (.iload_n 2, 1) := by decide +kernel
theorem d_Nd_grow_22 : decode b_Nd_grow 22 = .ok (.iaload, 1) := by decide +kernel
theorem d_Nd_grow_23 : decode b_Nd_grow 23 = .ok (.bipush 9, 2) := by decide +kernel
theorem d_Nd_grow_25 : decode b_Nd_grow 25 = .ok (.if_icmp .ge 44, 3) := by decide +kernel
theorem d_Nd_grow_28 : decode b_Nd_grow 28 = .ok (.aload_n 0, 1) := by decide +kernel
theorem d_Nd_grow_29 : decode b_Nd_grow 29 = .ok (.getfield 34, 3) := by decide +kernel
theorem d_Nd_grow_32 : decode b_Nd_grow 32 = .ok (.iload_n 1, 1) := by decide +kernel
theorem d_Nd_grow_33 : decode b_Nd_grow 33 = .ok (.aload_n 0, 1) := by decide +kernel
theorem d_Nd_grow_34 : decode b_Nd_grow 34 = .ok (.getfield 34, 3) := by decide +kernel
theorem d_Nd_grow_37 : decode b_Nd_grow 37 = .ok (.iload_n 2, 1) := by decide +kernel
theorem d_Nd_grow_38 : decode b_Nd_grow 38 = .ok (.iaload, 1) := by decide +kernel
theorem d_Nd_grow_39 : decode b_Nd_grow 39 = .ok (.iastore, 1) := by decide +kernel
theorem d_Nd_grow_40 : decode b_Nd_grow 40 = .ok (.aload_n 0, 1) := by decide +kernel
theorem d_Nd_grow_41 : decode b_Nd_grow 41 = .ok (.getfield 38, 3) := by decide +kernel
theorem d_Nd_grow_44 : decode b_Nd_grow 44 = .ok (.iload_n 1, 1) := by decide +kernel
theorem d_Nd_grow_45 : decode b_Nd_grow 45 = .ok (.aload_n 0, 1) := by decide +kernel
theorem d_Nd_grow_46 : decode b_Nd_grow 46 = .ok (.getfield 38, 3) := by decide +kernel
theorem d_Nd_grow_49 : decode b_Nd_grow 49 = .ok (.iload_n 2, 1) := by decide +kernel
theorem d_Nd_grow_50 : decode b_Nd_grow 50 = .ok (.iaload, 1) := by decide +kernel
theorem d_Nd_grow_51 : decode b_Nd_grow 51 = .ok (.iastore, 1) := by decide +kernel
theorem d_Nd_grow_52 : decode b_Nd_grow 52 = .ok (.aload_n 0, 1) := by decide +kernel
theorem d_Nd_grow_53 : decode b_Nd_grow 53 = .ok (.getfield 41, 3) := by decide +kernel
theorem d_Nd_grow_56 : decode b_Nd_grow 56 = .ok (.iload_n 1, 1) := by decide +kernel
theorem d_Nd_grow_57 : decode b_Nd_grow 57 = .ok (.aload_n 0, 1) := by decide +kernel
theorem d_Nd_grow_58 : decode b_Nd_grow 58 = .ok (.getfield 41, 3) := by decide +kernel
theorem d_Nd_grow_61 : decode b_Nd_grow 61 = .ok (.iload_n 2, 1) := by decide +kernel
theorem d_Nd_grow_62 : decode b_Nd_grow 62 = .ok (.iaload, 1) := by decide +kernel
theorem d_Nd_grow_63 : decode b_Nd_grow 63 = .ok (.iconst 1, 1) := by decide +kernel
theorem d_Nd_grow_64 : decode b_Nd_grow 64 = .ok (.iadd, 1) := by decide +kernel
theorem d_Nd_grow_65 : decode b_Nd_grow 65 = .ok (.iastore, 1) := by decide +kernel
theorem d_Nd_grow_66 : decode b_Nd_grow 66 = .ok (.iinc 1 1, 3) := by decide +kernel
theorem d_Nd_grow_69 : decode b_Nd_grow 69 = .ok (.iinc 2 1, 3) := by decide +kernel
theorem d_Nd_grow_72 : decode b_Nd_grow 72 = .ok (.goto (-68), 3) := by decide +kernel
theorem d_Nd_grow_75 : decode b_Nd_grow 75 = .ok (.aload_n 0, 1) := by decide +kernel
theorem d_Nd_grow_76 : decode b_Nd_grow 76 = .ok (.iload_n 1, 1) := by decide +kernel
theorem d_Nd_grow_77 : decode b_Nd_grow 77 = .ok (.putfield 31, 3) := by decide +kernel
theorem d_Nd_grow_80 : decode b_Nd_grow 80 = .ok (.aload_n 0, 1) := by decide +kernel
theorem d_Nd_grow_81 : decode b_Nd_grow 81 = .ok (.dup, 1) := by decide +kernel
theorem d_Nd_grow_82 : decode b_Nd_grow 82 = .ok (.getfield 25, 3) := by decide +kernel
theorem d_Nd_grow_85 : decode b_Nd_grow 85 = .ok (.iconst 1, 1) := by decide +kernel
theorem d_Nd_grow_86 : decode b_Nd_grow 86 = .ok (.iadd, 1) := by decide +kernel
theorem d_Nd_grow_87 : decode b_Nd_grow 87 = .ok (.putfield 25, 3) := by decide +kernel
theorem d_Nd_grow_90 : decode b_Nd_grow 90 = .ok (.aload_n 0, 1) := by decide +kernel
theorem d_Nd_grow_91 : decode b_Nd_grow 91 = .ok (.getfield 28, 3) := by decide +kernel
theorem d_Nd_grow_94 : decode b_Nd_grow 94 = .ok (.ifCond .le 13, 3) := by decide +kernel
theorem d_Nd_grow_97 : decode b_Nd_grow 97 = .ok (.aload_n 0, 1) := by decide +kernel
theorem d_Nd_grow_98 : decode b_Nd_grow 98 = .ok (.dup, 1) := by decide +kernel
theorem d_Nd_grow_99 : decode b_Nd_grow 99 = .ok (.getfield 28, 3) := by decide +kernel
theorem d_Nd_grow_102 : decode b_Nd_grow 102 = .ok (.iconst 1, 1) := by decide +kernel
theorem d_Nd_grow_103 : decode b_Nd_grow 103 = .ok (.isub, 1) := by decide +kernel
theorem d_Nd_grow_104 : decode b_Nd_grow 104 = .ok (.putfield 28, 3) := by decide +kernel
theorem d_Nd_grow_107 : decode b_Nd_grow 107 = .ok (.return_, 1) := by decide +kernel
abbrev b_Nd_lead : ByteArray := prog_4_method_7_code
abbrev y_Nd_lead : MethodName := ⟨"TimeFlood$Node", "lead", "(ILTimeFlood$Plan;)V"⟩
theorem m_Nd_lead : MWV y_Nd_lead b_Nd_lead 4 none 2 := ⟨wd_486, wd_487, wd_6, wd_488, by decide, by decide, by decide +kernel⟩
theorem d_Nd_lead_0 : decode b_Nd_lead 0 = .ok (.aload_n 0, 1) := by decide +kernel
theorem d_Nd_lead_1 : decode b_Nd_lead 1 = .ok (.getfield 19, 3) := by decide +kernel
theorem d_Nd_lead_4 : decode b_Nd_lead 4 = .ok (.iload_n 1, 1) := by decide +kernel
theorem d_Nd_lead_5 : decode b_Nd_lead 5 = .ok (.if_icmp .eq 18, 3) := by decide +kernel
theorem d_Nd_lead_8 : decode b_Nd_lead 8 = .ok (.aload_n 0, 1) := by decide +kernel
theorem d_Nd_lead_9 : decode b_Nd_lead 9 = .ok (.getfield 25, 3) := by decide +kernel
theorem d_Nd_lead_12 : decode b_Nd_lead 12 = .ok (.aload_n 2, 1) := by decide +kernel
theorem d_Nd_lead_13 : decode b_Nd_lead 13 = .ok (.getfield 53, 3) := by decide +kernel
theorem d_Nd_lead_16 : decode b_Nd_lead 16 = .ok (.if_icmp .le 7, 3) := by decide +kernel
theorem d_Nd_lead_19 : decode b_Nd_lead 19 = .ok (.iconst 1, 1) := by decide +kernel
theorem d_Nd_lead_20 : decode b_Nd_lead 20 = .ok (.goto 4, 3) := by decide +kernel
theorem d_Nd_lead_23 : decode b_Nd_lead 23 = .ok (.iconst 0, 1) := by decide +kernel
theorem d_Nd_lead_24 : decode b_Nd_lead 24 = .ok (.istore_n 3, 1) := by decide +kernel
theorem d_Nd_lead_25 : decode b_Nd_lead 25 = .ok (.iload_n 3, 1) := by decide +kernel
theorem d_Nd_lead_26 : decode b_Nd_lead 26 = .ok (.ifCond .eq 21, 3) := by decide +kernel
theorem d_Nd_lead_29 : decode b_Nd_lead 29 = .ok (.aload_n 0, 1) := by decide +kernel
theorem d_Nd_lead_30 : decode b_Nd_lead 30 = .ok (.iload_n 1, 1) := by decide +kernel
theorem d_Nd_lead_31 : decode b_Nd_lead 31 = .ok (.putfield 19, 3) := by decide +kernel
theorem d_Nd_lead_34 : decode b_Nd_lead 34 = .ok (.aload_n 0, 1) := by decide +kernel
theorem d_Nd_lead_35 : decode b_Nd_lead 35 = .ok (.iconst 0, 1) := by decide +kernel
theorem d_Nd_lead_36 : decode b_Nd_lead 36 = .ok (.putfield 31, 3) := by decide +kernel
theorem d_Nd_lead_39 : decode b_Nd_lead 39 = .ok (.aload_n 0, 1) := by decide +kernel
theorem d_Nd_lead_40 : decode b_Nd_lead 40 = .ok (.aload_n 2, 1) := by decide +kernel
theorem d_Nd_lead_41 : decode b_Nd_lead 41 = .ok (.getfield 58, 3) := by decide +kernel
theorem d_Nd_lead_44 : decode b_Nd_lead 44 = .ok (.putfield 28, 3) := by decide +kernel
theorem d_Nd_lead_47 : decode b_Nd_lead 47 = .ok (.aload_n 0, 1) := by decide +kernel
theorem d_Nd_lead_48 : decode b_Nd_lead 48 = .ok (.getfield 19, 3) := by decide +kernel
theorem d_Nd_lead_51 : decode b_Nd_lead 51 = .ok (.iload_n 1, 1) := by decide +kernel
theorem d_Nd_lead_52 : decode b_Nd_lead 52 = .ok (.if_icmp .ne 21, 3) := by decide +kernel
theorem d_Nd_lead_55 : decode b_Nd_lead 55 = .ok (.aload_n 0, 1) := by decide +kernel
theorem d_Nd_lead_56 : decode b_Nd_lead 56 = .ok (.aload_n 0, 1) := by decide +kernel
theorem d_Nd_lead_57 : decode b_Nd_lead 57 = .ok (.getfield 22, 3) := by decide +kernel
theorem d_Nd_lead_60 : decode b_Nd_lead 60 = .ok (.iconst 1, 1) := by decide +kernel
theorem d_Nd_lead_61 : decode b_Nd_lead 61 = .ok (.iadd, 1) := by decide +kernel
theorem d_Nd_lead_62 : decode b_Nd_lead 62 = .ok (.bipush 64, 2) := by decide +kernel
theorem d_Nd_lead_64 : decode b_Nd_lead 64 = .ok (.irem, 1) := by decide +kernel
theorem d_Nd_lead_65 : decode b_Nd_lead 65 = .ok (.putfield 22, 3) := by decide +kernel
theorem d_Nd_lead_68 : decode b_Nd_lead 68 = .ok (.aload_n 0, 1) := by decide +kernel
theorem d_Nd_lead_69 : decode b_Nd_lead 69 = .ok (.iconst 0, 1) := by decide +kernel
theorem d_Nd_lead_70 : decode b_Nd_lead 70 = .ok (.putfield 25, 3) := by decide +kernel
theorem d_Nd_lead_73 : decode b_Nd_lead 73 = .ok (.return_, 1) := by decide +kernel
abbrev b_Nd_sends : ByteArray := prog_4_method_8_code
abbrev y_Nd_sends : MethodName := ⟨"TimeFlood$Node", "sends", "(I)Z"⟩
theorem m_Nd_sends : MWV y_Nd_sends b_Nd_sends 2 (Option.some FieldType.boolean) 1 := ⟨wd_490, wd_491, wd_6, wd_492, by decide, by decide, by decide +kernel⟩
theorem d_Nd_sends_0 : decode b_Nd_sends 0 = .ok (.aload_n 0, 1) := by decide +kernel
theorem d_Nd_sends_1 : decode b_Nd_sends 1 = .ok (.getfield 9, 3) := by decide +kernel
theorem d_Nd_sends_4 : decode b_Nd_sends 4 = .ok (.ifCond .eq 23, 3) := by decide +kernel
theorem d_Nd_sends_7 : decode b_Nd_sends 7 = .ok (.aload_n 0, 1) := by decide +kernel
theorem d_Nd_sends_8 : decode b_Nd_sends 8 = .ok (.getfield 19, 3) := by decide +kernel
theorem d_Nd_sends_11 : decode b_Nd_sends 11 = .ok (.iload_n 1, 1) := by decide +kernel
theorem d_Nd_sends_12 : decode b_Nd_sends 12 = .ok (.if_icmp .eq 11, 3) := by decide +kernel
theorem d_Nd_sends_15 : decode b_Nd_sends 15 = .ok (.aload_n 0, 1) := by decide +kernel
theorem d_Nd_sends_16 : decode b_Nd_sends 16 = .ok (.getfield 31, 3) := by decide +kernel
theorem d_Nd_sends_19 : decode b_Nd_sends 19 = .ok (.iconst 2, 1) := by decide +kernel
theorem d_Nd_sends_20 : decode b_Nd_sends 20 = .ok (.if_icmp .lt 7, 3) := by decide +kernel
theorem d_Nd_sends_23 : decode b_Nd_sends 23 = .ok (.iconst 1, 1) := by decide +kernel
theorem d_Nd_sends_24 : decode b_Nd_sends 24 = .ok (.goto 4, 3) := by decide +kernel
theorem d_Nd_sends_27 : decode b_Nd_sends 27 = .ok (.iconst 0, 1) := by decide +kernel
theorem d_Nd_sends_28 : decode b_Nd_sends 28 = .ok (.ireturn, 1) := by decide +kernel
abbrev b_Nd_takesAsNewRoot : ByteArray := prog_4_method_9_code
abbrev y_Nd_takesAsNewRoot : MethodName := ⟨"TimeFlood$Node", "takesAsNewRoot", "(II)Z"⟩
theorem m_Nd_takesAsNewRoot : MWV y_Nd_takesAsNewRoot b_Nd_takesAsNewRoot 4 (Option.some FieldType.boolean) 2 := ⟨wd_503, wd_504, wd_6, wd_505, by decide, by decide, by decide +kernel⟩
theorem d_Nd_takesAsNewRoot_0 : decode b_Nd_takesAsNewRoot 0 = .ok (.aload_n 0, 1) := by decide +kernel
theorem d_Nd_takesAsNewRoot_1 : decode b_Nd_takesAsNewRoot 1 = .ok (.getfield 19, 3) := by decide +kernel
theorem d_Nd_takesAsNewRoot_4 : decode b_Nd_takesAsNewRoot 4 = .ok (.iload_n 1, 1) := by decide +kernel
theorem d_Nd_takesAsNewRoot_5 : decode b_Nd_takesAsNewRoot 5 = .ok (.if_icmp .ne 14, 3) := by decide +kernel
theorem d_Nd_takesAsNewRoot_8 : decode b_Nd_takesAsNewRoot 8 = .ok (.aload_n 0, 1) := by decide +kernel
theorem d_Nd_takesAsNewRoot_9 : decode b_Nd_takesAsNewRoot 9 = .ok (.getfield 28, 3) := by decide +kernel
theorem d_Nd_takesAsNewRoot_12 : decode b_Nd_takesAsNewRoot 12 = .ok (.ifCond .le 7, 3) := by decide +kernel
theorem d_Nd_takesAsNewRoot_15 : decode b_Nd_takesAsNewRoot 15 = .ok (.iconst 1, 1) := by decide +kernel
theorem d_Nd_takesAsNewRoot_16 : decode b_Nd_takesAsNewRoot 16 = .ok (.goto 4, 3) := by decide +kernel
theorem d_Nd_takesAsNewRoot_19 : decode b_Nd_takesAsNewRoot 19 = .ok (.iconst 0, 1) := by decide +kernel
theorem d_Nd_takesAsNewRoot_20 : decode b_Nd_takesAsNewRoot 20 = .ok (.istore_n 3, 1) := by decide +kernel
theorem d_Nd_takesAsNewRoot_21 : decode b_Nd_takesAsNewRoot 21 = .ok (.iload_n 3, 1) := by decide +kernel
theorem d_Nd_takesAsNewRoot_22 : decode b_Nd_takesAsNewRoot 22 = .ok (.ifCond .ne 24, 3) := by decide +kernel
theorem d_Nd_takesAsNewRoot_25 : decode b_Nd_takesAsNewRoot 25 = .ok (.aload_n 0, 1) := by decide +kernel
theorem d_Nd_takesAsNewRoot_26 : decode b_Nd_takesAsNewRoot 26 = .ok (.getfield 19, 3) := by decide +kernel
theorem d_Nd_takesAsNewRoot_29 : decode b_Nd_takesAsNewRoot 29 = .ok (.bipush (-9), 2) := by decide +kernel
theorem d_Nd_takesAsNewRoot_31 : decode b_Nd_takesAsNewRoot 31 = .ok (.if_icmp .eq 11, 3) := by decide +kernel
theorem d_Nd_takesAsNewRoot_34 : decode b_Nd_takesAsNewRoot 34 = .ok (.iload_n 2, 1) := by decide +kernel
theorem d_Nd_takesAsNewRoot_35 : decode b_Nd_takesAsNewRoot 35 = .ok (.aload_n 0, 1) := by decide +kernel
theorem d_Nd_takesAsNewRoot_36 : decode b_Nd_takesAsNewRoot 36 = .ok (.getfield 19, 3) := by decide +kernel
theorem d_Nd_takesAsNewRoot_39 : decode b_Nd_takesAsNewRoot 39 = .ok (.if_icmp .ge 7, 3) := by decide +kernel
theorem d_Nd_takesAsNewRoot_42 : decode b_Nd_takesAsNewRoot 42 = .ok (.iconst 1, 1) := by decide +kernel
theorem d_Nd_takesAsNewRoot_43 : decode b_Nd_takesAsNewRoot 43 = .ok (.goto 4, 3) := by decide +kernel
theorem d_Nd_takesAsNewRoot_46 : decode b_Nd_takesAsNewRoot 46 = .ok (.iconst 0, 1) := by decide +kernel
theorem d_Nd_takesAsNewRoot_47 : decode b_Nd_takesAsNewRoot 47 = .ok (.ireturn, 1) := by decide +kernel
abbrev b_Nd_store : ByteArray := prog_4_method_11_code
abbrev y_Nd_store : MethodName := ⟨"TimeFlood$Node", "store", "(III)V"⟩
theorem m_Nd_store : MWV y_Nd_store b_Nd_store 5 none 3 := ⟨wd_507, wd_508, wd_6, wd_509, by decide, by decide, by decide +kernel⟩
theorem d_Nd_store_0 : decode b_Nd_store 0 = .ok (.aload_n 0, 1) := by decide +kernel
theorem d_Nd_store_1 : decode b_Nd_store 1 = .ok (.iload_n 1, 1) := by decide +kernel
theorem d_Nd_store_2 : decode b_Nd_store 2 = .ok (.putfield 22, 3) := by decide +kernel
theorem d_Nd_store_5 : decode b_Nd_store 5 = .ok (.aload_n 0, 1) := by decide +kernel
theorem d_Nd_store_6 : decode b_Nd_store 6 = .ok (.iconst 0, 1) := by decide +kernel
theorem d_Nd_store_7 : decode b_Nd_store 7 = .ok (.putfield 25, 3) := by decide +kernel
theorem d_Nd_store_10 : decode b_Nd_store 10 = .ok (.aload_n 0, 1) := by decide +kernel
theorem d_Nd_store_11 : decode b_Nd_store 11 = .ok (.getfield 31, 3) := by decide +kernel
theorem d_Nd_store_14 : decode b_Nd_store 14 = .ok (.iconst 4, 1) := by decide +kernel
theorem d_Nd_store_15 : decode b_Nd_store 15 = .ok (.if_icmp .lt 71, 3) := by decide +kernel
theorem d_Nd_store_18 : decode b_Nd_store 18 = .ok (.iconst 1, 1) := by decide +kernel
theorem d_Nd_store_19 : decode b_Nd_store 19 = .ok (.istore 4, 2) := by decide +kernel
theorem d_Nd_store_21 : decode b_Nd_store 21 = .ok (.iload 4, 2) := by decide +kernel
theorem d_Nd_store_23 : decode b_Nd_store 23 = .ok (.iconst 4, 1) := by decide +kernel
theorem d_Nd_store_24 : decode b_Nd_store 24 = .ok (.if_icmp .ge 57, 3) := by decide +kernel
theorem d_Nd_store_27 : decode b_Nd_store 27 = .ok (.aload_n 0, 1) := by decide +kernel
theorem d_Nd_store_28 : decode b_Nd_store 28 = .ok (.getfield 34, 3) := by decide +kernel
theorem d_Nd_store_31 : decode b_Nd_store 31 = .ok (.iload 4, 2) := by decide +kernel
theorem d_Nd_store_33 : decode b_Nd_store 33 = .ok (.iconst 1, 1) := by decide +kernel
theorem d_Nd_store_34 : decode b_Nd_store 34 = .ok (.isub, 1) := by decide +kernel
theorem d_Nd_store_35 : decode b_Nd_store 35 = .ok (.aload_n 0, 1) := by decide +kernel
theorem d_Nd_store_36 : decode b_Nd_store 36 = .ok (.getfield 34, 3) := by decide +kernel
theorem d_Nd_store_39 : decode b_Nd_store 39 = .ok (.iload 4, 2) := by decide +kernel
theorem d_Nd_store_41 : decode b_Nd_store 41 = .ok (.iaload, 1) := by decide +kernel
theorem d_Nd_store_42 : decode b_Nd_store 42 = .ok (.iastore, 1) := by decide +kernel
theorem d_Nd_store_43 : decode b_Nd_store 43 = .ok (.aload_n 0, 1) := by decide +kernel
theorem d_Nd_store_44 : decode b_Nd_store 44 = .ok (.getfield 38, 3) := by decide +kernel
theorem d_Nd_store_47 : decode b_Nd_store 47 = .ok (.iload 4, 2) := by decide +kernel
theorem d_Nd_store_49 : decode b_Nd_store 49 = .ok (.iconst 1, 1) := by decide +kernel
theorem d_Nd_store_50 : decode b_Nd_store 50 = .ok (.isub, 1) := by decide +kernel
theorem d_Nd_store_51 : decode b_Nd_store 51 = .ok (.aload_n 0, 1) := by decide +kernel
theorem d_Nd_store_52 : decode b_Nd_store 52 = .ok (.getfield 38, 3) := by decide +kernel
theorem d_Nd_store_55 : decode b_Nd_store 55 = .ok (.iload 4, 2) := by decide +kernel
theorem d_Nd_store_57 : decode b_Nd_store 57 = .ok (.iaload, 1) := by decide +kernel
theorem d_Nd_store_58 : decode b_Nd_store 58 = .ok (.iastore, 1) := by decide +kernel
theorem d_Nd_store_59 : decode b_Nd_store 59 = .ok (.aload_n 0, 1) := by decide +kernel
theorem d_Nd_store_60 : decode b_Nd_store 60 = .ok (.getfield 41, 3) := by decide +kernel
theorem d_Nd_store_63 : decode b_Nd_store 63 = .ok (.iload 4, 2) := by decide +kernel
theorem d_Nd_store_65 : decode b_Nd_store 65 = .ok (.iconst 1, 1) := by decide +kernel
theorem d_Nd_store_66 : decode b_Nd_store 66 = .ok (.isub, 1) := by decide +kernel
theorem d_Nd_store_67 : decode b_Nd_store 67 = .ok (.aload_n 0, 1) := by decide +kernel
theorem d_Nd_store_68 : decode b_Nd_store 68 = .ok (.getfield 41, 3) := by decide +kernel
theorem d_Nd_store_71 : decode b_Nd_store 71 = .ok (.iload 4, 2) := by decide +kernel
theorem d_Nd_store_73 : decode b_Nd_store 73 = .ok (.iaload, 1) := by decide +kernel
theorem d_Nd_store_74 : decode b_Nd_store 74 = .ok (.iastore, 1) := by decide +kernel
theorem d_Nd_store_75 : decode b_Nd_store 75 = .ok (.iinc 4 1, 3) := by decide +kernel
theorem d_Nd_store_78 : decode b_Nd_store 78 = .ok (.goto (-57), 3) := by decide +kernel
theorem d_Nd_store_81 : decode b_Nd_store 81 = .ok (.aload_n 0, 1) := by decide +kernel
theorem d_Nd_store_82 : decode b_Nd_store 82 = .ok (.iconst 3, 1) := by decide +kernel
theorem d_Nd_store_83 : decode b_Nd_store 83 = .ok (.putfield 31, 3) := by decide +kernel
theorem d_Nd_store_86 : decode b_Nd_store 86 = .ok (.aload_n 0, 1) := by decide +kernel
theorem d_Nd_store_87 : decode b_Nd_store 87 = .ok (.getfield 34, 3) := by decide +kernel
theorem d_Nd_store_90 : decode b_Nd_store 90 = .ok (.aload_n 0, 1) := by decide +kernel
theorem d_Nd_store_91 : decode b_Nd_store 91 = .ok (.getfield 31, 3) := by decide +kernel
theorem d_Nd_store_94 : decode b_Nd_store 94 = .ok (.iload_n 2, 1) := by decide +kernel
theorem d_Nd_store_95 : decode b_Nd_store 95 = .ok (.iastore, 1) := by decide +kernel
theorem d_Nd_store_96 : decode b_Nd_store 96 = .ok (.aload_n 0, 1) := by decide +kernel
theorem d_Nd_store_97 : decode b_Nd_store 97 = .ok (.getfield 38, 3) := by decide +kernel
theorem d_Nd_store_100 : decode b_Nd_store 100 = .ok (.aload_n 0, 1) := by decide +kernel
theorem d_Nd_store_101 : decode b_Nd_store 101 = .ok (.getfield 31, 3) := by decide +kernel
theorem d_Nd_store_104 : decode b_Nd_store 104 = .ok (.iload_n 3, 1) := by decide +kernel
theorem d_Nd_store_105 : decode b_Nd_store 105 = .ok (.iastore, 1) := by decide +kernel
theorem d_Nd_store_106 : decode b_Nd_store 106 = .ok (.aload_n 0, 1) := by decide +kernel
theorem d_Nd_store_107 : decode b_Nd_store 107 = .ok (.getfield 41, 3) := by decide +kernel
theorem d_Nd_store_110 : decode b_Nd_store 110 = .ok (.aload_n 0, 1) := by decide +kernel
theorem d_Nd_store_111 : decode b_Nd_store 111 = .ok (.getfield 31, 3) := by decide +kernel
theorem d_Nd_store_114 : decode b_Nd_store 114 = .ok (.iconst 0, 1) := by decide +kernel
theorem d_Nd_store_115 : decode b_Nd_store 115 = .ok (.iastore, 1) := by decide +kernel
theorem d_Nd_store_116 : decode b_Nd_store 116 = .ok (.aload_n 0, 1) := by decide +kernel
theorem d_Nd_store_117 : decode b_Nd_store 117 = .ok (.dup, 1) := by decide +kernel
theorem d_Nd_store_118 : decode b_Nd_store 118 = .ok (.getfield 31, 3) := by decide +kernel
theorem d_Nd_store_121 : decode b_Nd_store 121 = .ok (.iconst 1, 1) := by decide +kernel
theorem d_Nd_store_122 : decode b_Nd_store 122 = .ok (.iadd, 1) := by decide +kernel
theorem d_Nd_store_123 : decode b_Nd_store 123 = .ok (.putfield 31, 3) := by decide +kernel
theorem d_Nd_store_126 : decode b_Nd_store 126 = .ok (.return_, 1) := by decide +kernel
abbrev b_Nd_takesAsNews : ByteArray := prog_4_method_10_code
abbrev y_Nd_takesAsNews : MethodName := ⟨"TimeFlood$Node", "takesAsNews", "(III)Z"⟩
theorem m_Nd_takesAsNews : MWV y_Nd_takesAsNews b_Nd_takesAsNews 5 (Option.some FieldType.boolean) 3 := ⟨wd_511, wd_512, wd_6, wd_513, by decide, by decide, by decide +kernel⟩
theorem d_Nd_takesAsNews_0 : decode b_Nd_takesAsNews 0 = .ok (.iload_n 3, 1) := by decide +kernel
theorem d_Nd_takesAsNews_1 : decode b_Nd_takesAsNews 1 = .ok (.aload_n 0, 1) := by decide +kernel
theorem d_Nd_takesAsNews_2 : decode b_Nd_takesAsNews 2 = .ok (.getfield 22, 3) := by decide +kernel
theorem d_Nd_takesAsNews_5 : decode b_Nd_takesAsNews 5 = .ok (.isub, 1) := by decide +kernel
theorem d_Nd_takesAsNews_6 : decode b_Nd_takesAsNews 6 = .ok (.bipush 64, 2) := by decide +kernel
theorem d_Nd_takesAsNews_8 : decode b_Nd_takesAsNews 8 = .ok (.invokestatic 61, 3) := by decide +kernel
theorem d_Nd_takesAsNews_11 : decode b_Nd_takesAsNews 11 = .ok (.istore 4, 2) := by decide +kernel
theorem d_Nd_takesAsNews_13 : decode b_Nd_takesAsNews 13 = .ok (.iload_n 2, 1) := by decide +kernel
theorem d_Nd_takesAsNews_14 : decode b_Nd_takesAsNews 14 = .ok (.aload_n 0, 1) := by decide +kernel
theorem d_Nd_takesAsNews_15 : decode b_Nd_takesAsNews 15 = .ok (.getfield 19, 3) := by decide +kernel
theorem d_Nd_takesAsNews_18 : decode b_Nd_takesAsNews 18 = .ok (.if_icmp .ne 28, 3) := by decide +kernel
theorem d_Nd_takesAsNews_21 : decode b_Nd_takesAsNews 21 = .ok (.aload_n 0, 1) := by decide +kernel
theorem d_Nd_takesAsNews_22 : decode b_Nd_takesAsNews 22 = .ok (.getfield 19, 3) := by decide +kernel
theorem d_Nd_takesAsNews_25 : decode b_Nd_takesAsNews 25 = .ok (.iload_n 1, 1) := by decide +kernel
theorem d_Nd_takesAsNews_26 : decode b_Nd_takesAsNews 26 = .ok (.if_icmp .eq 20, 3) := by decide +kernel
theorem d_Nd_takesAsNews_29 : decode b_Nd_takesAsNews 29 = .ok (.iload 4, 2) := by decide +kernel
theorem d_Nd_takesAsNews_31 : decode b_Nd_takesAsNews 31 = .ok (.iconst 1, 1) := by decide +kernel
theorem d_Nd_takesAsNews_32 : decode b_Nd_takesAsNews 32 = .ok (.if_icmp .lt 14, 3) := by decide +kernel
theorem d_Nd_takesAsNews_35 : decode b_Nd_takesAsNews 35 = .ok (.iload 4, 2) := by decide +kernel
theorem d_Nd_takesAsNews_37 : decode b_Nd_takesAsNews 37 = .ok (.bipush 31, 2) := by decide +kernel
theorem d_Nd_takesAsNews_39 : decode b_Nd_takesAsNews 39 = .ok (.if_icmp .gt 7, 3) := by decide +kernel
theorem d_Nd_takesAsNews_42 : decode b_Nd_takesAsNews 42 = .ok (.iconst 1, 1) := by decide +kernel
theorem d_Nd_takesAsNews_43 : decode b_Nd_takesAsNews 43 = .ok (.goto 4, 3) := by decide +kernel
theorem d_Nd_takesAsNews_46 : decode b_Nd_takesAsNews 46 = .ok (.iconst 0, 1) := by decide +kernel
theorem d_Nd_takesAsNews_47 : decode b_Nd_takesAsNews 47 = .ok (.ireturn, 1) := by decide +kernel
abbrev b_Fl_hear : ByteArray := prog_2_method_5_code
abbrev y_Fl_hear : MethodName := ⟨"TimeFlood$Flood", "hear", "(LTimeFlood$State;II)V"⟩
theorem m_Fl_hear : MWV y_Fl_hear b_Fl_hear 5 none 3 := ⟨wd_500, wp_7, wd_4, wd_501, by decide, by decide, by decide +kernel⟩
theorem d_Fl_hear_0 : decode b_Fl_hear 0 = .ok (.aload_n 1, 1) := by decide +kernel
theorem d_Fl_hear_1 : decode b_Fl_hear 1 = .ok (.getfield 48, 3) := by decide +kernel
theorem d_Fl_hear_4 : decode b_Fl_hear 4 = .ok (.iload_n 2, 1) := by decide +kernel
theorem d_Fl_hear_5 : decode b_Fl_hear 5 = .ok (.aaload, 1) := by decide +kernel
theorem d_Fl_hear_6 : decode b_Fl_hear 6 = .ok (.astore 4, 2) := by decide +kernel
theorem d_Fl_hear_8 : decode b_Fl_hear 8 = .ok (.aload 4, 2) := by decide +kernel
theorem d_Fl_hear_10 : decode b_Fl_hear 10 = .ok (.iload_n 2, 1) := by decide +kernel
theorem d_Fl_hear_11 : decode b_Fl_hear 11 = .ok (.aload_n 0, 1) := by decide +kernel
theorem d_Fl_hear_12 : decode b_Fl_hear 12 = .ok (.getfield 22, 3) := by decide +kernel
theorem d_Fl_hear_15 : decode b_Fl_hear 15 = .ok (.iload_n 3, 1) := by decide +kernel
theorem d_Fl_hear_16 : decode b_Fl_hear 16 = .ok (.iaload, 1) := by decide +kernel
theorem d_Fl_hear_17 : decode b_Fl_hear 17 = .ok (.invokevirtual 98, 3) := by decide +kernel
theorem d_Fl_hear_20 : decode b_Fl_hear 20 = .ok (.ifCond .eq 46, 3) := by decide +kernel
theorem d_Fl_hear_23 : decode b_Fl_hear 23 = .ok (.aload 4, 2) := by decide +kernel
theorem d_Fl_hear_25 : decode b_Fl_hear 25 = .ok (.aload_n 0, 1) := by decide +kernel
theorem d_Fl_hear_26 : decode b_Fl_hear 26 = .ok (.getfield 22, 3) := by decide +kernel
theorem d_Fl_hear_29 : decode b_Fl_hear 29 = .ok (.iload_n 3, 1) := by decide +kernel
theorem d_Fl_hear_30 : decode b_Fl_hear 30 = .ok (.iaload, 1) := by decide +kernel
theorem d_Fl_hear_31 : decode b_Fl_hear 31 = .ok (.putfield 69, 3) := by decide +kernel
theorem d_Fl_hear_34 : decode b_Fl_hear 34 = .ok (.aload 4, 2) := by decide +kernel
theorem d_Fl_hear_36 : decode b_Fl_hear 36 = .ok (.iconst 0, 1) := by decide +kernel
theorem d_Fl_hear_37 : decode b_Fl_hear 37 = .ok (.putfield 102, 3) := by decide +kernel
theorem d_Fl_hear_40 : decode b_Fl_hear 40 = .ok (.aload 4, 2) := by decide +kernel
theorem d_Fl_hear_42 : decode b_Fl_hear 42 = .ok (.aload_n 0, 1) := by decide +kernel
theorem d_Fl_hear_43 : decode b_Fl_hear 43 = .ok (.getfield 26, 3) := by decide +kernel
theorem d_Fl_hear_46 : decode b_Fl_hear 46 = .ok (.iload_n 3, 1) := by decide +kernel
theorem d_Fl_hear_47 : decode b_Fl_hear 47 = .ok (.iaload, 1) := by decide +kernel
theorem d_Fl_hear_48 : decode b_Fl_hear 48 = .ok (.aload_n 0, 1) := by decide +kernel
theorem d_Fl_hear_49 : decode b_Fl_hear 49 = .ok (.aload_n 1, 1) := by decide +kernel
theorem d_Fl_hear_50 : decode b_Fl_hear 50 = .ok (.iload_n 2, 1) := by decide +kernel
theorem d_Fl_hear_51 : decode b_Fl_hear 51 = .ok (.invokevirtual 75, 3) := by decide +kernel
theorem d_Fl_hear_54 : decode b_Fl_hear 54 = .ok (.aload_n 0, 1) := by decide +kernel
theorem d_Fl_hear_55 : decode b_Fl_hear 55 = .ok (.getfield 29, 3) := by decide +kernel
theorem d_Fl_hear_58 : decode b_Fl_hear 58 = .ok (.iload_n 3, 1) := by decide +kernel
theorem d_Fl_hear_59 : decode b_Fl_hear 59 = .ok (.iaload, 1) := by decide +kernel
theorem d_Fl_hear_60 : decode b_Fl_hear 60 = .ok (.invokevirtual 105, 3) := by decide +kernel
theorem d_Fl_hear_63 : decode b_Fl_hear 63 = .ok (.goto 47, 3) := by decide +kernel
theorem d_Fl_hear_66 : decode b_Fl_hear 66 = .ok (.aload 4, 2) := by decide +kernel
theorem d_Fl_hear_68 : decode b_Fl_hear 68 = .ok (.iload_n 2, 1) := by decide +kernel
theorem d_Fl_hear_69 : decode b_Fl_hear 69 = .ok (.aload_n 0, 1) := by decide +kernel
theorem d_Fl_hear_70 : decode b_Fl_hear 70 = .ok (.getfield 22, 3) := by decide +kernel
theorem d_Fl_hear_73 : decode b_Fl_hear 73 = .ok (.iload_n 3, 1) := by decide +kernel
theorem d_Fl_hear_74 : decode b_Fl_hear 74 = .ok (.iaload, 1) := by decide +kernel
theorem d_Fl_hear_75 : decode b_Fl_hear 75 = .ok (.aload_n 0, 1) := by decide +kernel
theorem d_Fl_hear_76 : decode b_Fl_hear 76 = .ok (.getfield 26, 3) := by decide +kernel
theorem d_Fl_hear_79 : decode b_Fl_hear 79 = .ok (.iload_n 3, 1) := by decide +kernel
theorem d_Fl_hear_80 : decode b_Fl_hear 80 = .ok (.iaload, 1) := by decide +kernel
theorem d_Fl_hear_81 : decode b_Fl_hear 81 = .ok (.invokevirtual 109, 3) := by decide +kernel
theorem d_Fl_hear_84 : decode b_Fl_hear 84 = .ok (.ifCond .eq 26, 3) := by decide +kernel
theorem d_Fl_hear_87 : decode b_Fl_hear 87 = .ok (.aload 4, 2) := by decide +kernel
theorem d_Fl_hear_89 : decode b_Fl_hear 89 = .ok (.aload_n 0, 1) := by decide +kernel
theorem d_Fl_hear_90 : decode b_Fl_hear 90 = .ok (.getfield 26, 3) := by decide +kernel
theorem d_Fl_hear_93 : decode b_Fl_hear 93 = .ok (.iload_n 3, 1) := by decide +kernel
theorem d_Fl_hear_94 : decode b_Fl_hear 94 = .ok (.iaload, 1) := by decide +kernel
theorem d_Fl_hear_95 : decode b_Fl_hear 95 = .ok (.aload_n 0, 1) := by decide +kernel
theorem d_Fl_hear_96 : decode b_Fl_hear 96 = .ok (.aload_n 1, 1) := by decide +kernel
theorem d_Fl_hear_97 : decode b_Fl_hear 97 = .ok (.iload_n 2, 1) := by decide +kernel
theorem d_Fl_hear_98 : decode b_Fl_hear 98 = .ok (.invokevirtual 75, 3) := by decide +kernel
theorem d_Fl_hear_101 : decode b_Fl_hear 101 = .ok (.aload_n 0, 1) := by decide +kernel
theorem d_Fl_hear_102 : decode b_Fl_hear 102 = .ok (.getfield 29, 3) := by decide +kernel
theorem d_Fl_hear_105 : decode b_Fl_hear 105 = .ok (.iload_n 3, 1) := by decide +kernel
theorem d_Fl_hear_106 : decode b_Fl_hear 106 = .ok (.iaload, 1) := by decide +kernel
theorem d_Fl_hear_107 : decode b_Fl_hear 107 = .ok (.invokevirtual 105, 3) := by decide +kernel
theorem d_Fl_hear_110 : decode b_Fl_hear 110 = .ok (.return_, 1) := by decide +kernel
abbrev b_Fl_receive : ByteArray := prog_2_method_4_code
abbrev y_Fl_receive : MethodName := ⟨"TimeFlood$Flood", "receive", "(LTimeFlood$State;I)V"⟩
theorem m_Fl_receive : MWV y_Fl_receive b_Fl_receive 5 none 2 := ⟨wd_495, wp_6, wd_4, wd_496, by decide, by decide, by decide +kernel⟩
theorem d_Fl_receive_0 : decode b_Fl_receive 0 = .ok (.iconst 0, 1) := by decide +kernel
theorem d_Fl_receive_1 : decode b_Fl_receive 1 = .ok (.istore_n 3, 1) := by decide +kernel
theorem d_Fl_receive_2 : decode b_Fl_receive 2 = .ok (.iload_n 3, 1) := by decide +kernel
theorem d_Fl_receive_3 : decode b_Fl_receive 3 = .ok (.aload_n 0, 1) := by decide +kernel
theorem d_Fl_receive_4 : decode b_Fl_receive 4 = .ok (.getfield 12, 3) := by decide +kernel
theorem d_Fl_receive_7 : decode b_Fl_receive 7 = .ok (.getfield 45, 3) := by decide +kernel
theorem d_Fl_receive_10 : decode b_Fl_receive 10 = .ok (.if_icmp .ge 54, 3) := by decide +kernel
theorem d_Fl_receive_13 : decode b_Fl_receive 13 = .ok (.aload_n 0, 1) := by decide +kernel
theorem d_Fl_receive_14 : decode b_Fl_receive 14 = .ok (.getfield 18, 3) := by decide +kernel
theorem d_Fl_receive_17 : decode b_Fl_receive 17 = .ok (.iload_n 3, 1) := by decide +kernel
theorem d_Fl_receive_18 : decode b_Fl_receive 18 = .ok (.baload, 1) := by decide +kernel
theorem d_Fl_receive_19 : decode b_Fl_receive 19 = .ok (.ifCond .eq 39, 3) := by decide +kernel
theorem d_Fl_receive_22 : decode b_Fl_receive 22 = .ok (.aload_n 0, 1) := by decide +kernel
theorem d_Fl_receive_23 : decode b_Fl_receive 23 = .ok (.getfield 12, 3) := by decide +kernel
theorem d_Fl_receive_26 : decode b_Fl_receive 26 = .ok (.getfield 87, 3) := by decide +kernel
theorem d_Fl_receive_29 : decode b_Fl_receive 29 = .ok (.iload_n 3, 1) := by decide +kernel
theorem d_Fl_receive_30 : decode b_Fl_receive 30 = .ok (.aaload, 1) := by decide +kernel
theorem d_Fl_receive_31 : decode b_Fl_receive 31 = .ok (.iload_n 2, 1) := by decide +kernel
theorem d_Fl_receive_32 : decode b_Fl_receive 32 = .ok (.iaload, 1) := by decide +kernel
theorem d_Fl_receive_33 : decode b_Fl_receive 33 = .ok (.istore 4, 2) := by decide +kernel
theorem d_Fl_receive_35 : decode b_Fl_receive 35 = .ok (.iload 4, 2) := by decide +kernel
theorem d_Fl_receive_37 : decode b_Fl_receive 37 = .ok (.bipush (-9), 2) := by decide +kernel
theorem d_Fl_receive_39 : decode b_Fl_receive 39 = .ok (.if_icmp .eq 19, 3) := by decide +kernel
theorem d_Fl_receive_42 : decode b_Fl_receive 42 = .ok (.aload_n 1, 1) := by decide +kernel
theorem d_Fl_receive_43 : decode b_Fl_receive 43 = .ok (.iload 4, 2) := by decide +kernel
theorem d_Fl_receive_45 : decode b_Fl_receive 45 = .ok (.invokevirtual 91, 3) := by decide +kernel
theorem d_Fl_receive_48 : decode b_Fl_receive 48 = .ok (.ifCond .ne 10, 3) := by decide +kernel
theorem d_Fl_receive_51 : decode b_Fl_receive 51 = .ok (.aload_n 0, 1) := by decide +kernel
theorem d_Fl_receive_52 : decode b_Fl_receive 52 = .ok (.aload_n 1, 1) := by decide +kernel
theorem d_Fl_receive_53 : decode b_Fl_receive 53 = .ok (.iload_n 2, 1) := by decide +kernel
theorem d_Fl_receive_54 : decode b_Fl_receive 54 = .ok (.iload_n 3, 1) := by decide +kernel
theorem d_Fl_receive_55 : decode b_Fl_receive 55 = .ok (.invokevirtual 94, 3) := by decide +kernel
theorem d_Fl_receive_58 : decode b_Fl_receive 58 = .ok (.iinc 3 1, 3) := by decide +kernel
theorem d_Fl_receive_61 : decode b_Fl_receive 61 = .ok (.goto (-59), 3) := by decide +kernel
theorem d_Fl_receive_64 : decode b_Fl_receive 64 = .ok (.return_, 1) := by decide +kernel
abbrev b_Fl_pass : ByteArray := prog_2_method_3_code
abbrev y_Fl_pass : MethodName := ⟨"TimeFlood$Flood", "pass", "(LTimeFlood$State;)V"⟩
theorem m_Fl_pass : MWV y_Fl_pass b_Fl_pass 4 none 1 := ⟨wd_478, wd_479, wd_4, wd_480, by decide, by decide, by decide +kernel⟩
theorem d_Fl_pass_0 : decode b_Fl_pass 0 = .ok (.aload_n 1, 1) := by decide +kernel
theorem d_Fl_pass_1 : decode b_Fl_pass 1 = .ok (.dup, 1) := by decide +kernel
theorem d_Fl_pass_2 : decode b_Fl_pass 2 = .ok (.getfield 36, 3) := by decide +kernel
theorem d_Fl_pass_5 : decode b_Fl_pass 5 = .ok (.aload_n 0, 1) := by decide +kernel
theorem d_Fl_pass_6 : decode b_Fl_pass 6 = .ok (.getfield 12, 3) := by decide +kernel
theorem d_Fl_pass_9 : decode b_Fl_pass 9 = .ok (.getfield 42, 3) := by decide +kernel
theorem d_Fl_pass_12 : decode b_Fl_pass 12 = .ok (.iadd, 1) := by decide +kernel
theorem d_Fl_pass_13 : decode b_Fl_pass 13 = .ok (.putfield 36, 3) := by decide +kernel
theorem d_Fl_pass_16 : decode b_Fl_pass 16 = .ok (.iconst 0, 1) := by decide +kernel
theorem d_Fl_pass_17 : decode b_Fl_pass 17 = .ok (.istore_n 2, 1) := by decide +kernel
theorem d_Fl_pass_18 : decode b_Fl_pass 18 = .ok (.iload_n 2, 1) := by decide +kernel
theorem d_Fl_pass_19 : decode b_Fl_pass 19 = .ok (.aload_n 0, 1) := by decide +kernel
theorem d_Fl_pass_20 : decode b_Fl_pass 20 = .ok (.getfield 12, 3) := by decide +kernel
theorem d_Fl_pass_23 : decode b_Fl_pass 23 = .ok (.getfield 45, 3) := by decide +kernel
theorem d_Fl_pass_26 : decode b_Fl_pass 26 = .ok (.if_icmp .ge 93, 3) := by decide +kernel
theorem d_Fl_pass_29 : decode b_Fl_pass 29 = .ok (.aload_n 1, 1) := by decide +kernel
theorem d_Fl_pass_30 : decode b_Fl_pass 30 = .ok (.getfield 48, 3) := by decide +kernel
theorem d_Fl_pass_33 : decode b_Fl_pass 33 = .ok (.iload_n 2, 1) := by decide +kernel
theorem d_Fl_pass_34 : decode b_Fl_pass 34 = .ok (.aaload, 1) := by decide +kernel
theorem d_Fl_pass_35 : decode b_Fl_pass 35 = .ok (.astore_n 3, 1) := by decide +kernel
theorem d_Fl_pass_36 : decode b_Fl_pass 36 = .ok (.aload_n 3, 1) := by decide +kernel
theorem d_Fl_pass_37 : decode b_Fl_pass 37 = .ok (.getfield 52, 3) := by decide +kernel
theorem d_Fl_pass_40 : decode b_Fl_pass 40 = .ok (.ifCond .eq 16, 3) := by decide +kernel
theorem d_Fl_pass_43 : decode b_Fl_pass 43 = .ok (.aload_n 3, 1) := by decide +kernel
theorem d_Fl_pass_44 : decode b_Fl_pass 44 = .ok (.invokevirtual 58, 3) := by decide +kernel
theorem d_Fl_pass_47 : decode b_Fl_pass 47 = .ok (.aload_n 3, 1) := by decide +kernel
theorem d_Fl_pass_48 : decode b_Fl_pass 48 = .ok (.iload_n 2, 1) := by decide +kernel
theorem d_Fl_pass_49 : decode b_Fl_pass 49 = .ok (.aload_n 0, 1) := by decide +kernel
theorem d_Fl_pass_50 : decode b_Fl_pass 50 = .ok (.getfield 12, 3) := by decide +kernel
theorem d_Fl_pass_53 : decode b_Fl_pass 53 = .ok (.invokevirtual 61, 3) := by decide +kernel
theorem d_Fl_pass_56 : decode b_Fl_pass 56 = .ok (.aload_n 0, 1) := by decide +kernel
theorem d_Fl_pass_57 : decode b_Fl_pass 57 = .ok (.getfield 18, 3) := by decide +kernel
theorem d_Fl_pass_60 : decode b_Fl_pass 60 = .ok (.iload_n 2, 1) := by decide +kernel
theorem d_Fl_pass_61 : decode b_Fl_pass 61 = .ok (.aload_n 3, 1) := by decide +kernel
theorem d_Fl_pass_62 : decode b_Fl_pass 62 = .ok (.iload_n 2, 1) := by decide +kernel
theorem d_Fl_pass_63 : decode b_Fl_pass 63 = .ok (.invokevirtual 65, 3) := by decide +kernel
theorem d_Fl_pass_66 : decode b_Fl_pass 66 = .ok (.bastore, 1) := by decide +kernel
theorem d_Fl_pass_67 : decode b_Fl_pass 67 = .ok (.aload_n 0, 1) := by decide +kernel
theorem d_Fl_pass_68 : decode b_Fl_pass 68 = .ok (.getfield 18, 3) := by decide +kernel
theorem d_Fl_pass_71 : decode b_Fl_pass 71 = .ok (.iload_n 2, 1) := by decide +kernel
theorem d_Fl_pass_72 : decode b_Fl_pass 72 = .ok (.baload, 1) := by decide +kernel
theorem d_Fl_pass_73 : decode b_Fl_pass 73 = .ok (.ifCond .eq 40, 3) := by decide +kernel
theorem d_Fl_pass_76 : decode b_Fl_pass 76 = .ok (.aload_n 0, 1) := by decide +kernel
theorem d_Fl_pass_77 : decode b_Fl_pass 77 = .ok (.getfield 22, 3) := by decide +kernel
theorem d_Fl_pass_80 : decode b_Fl_pass 80 = .ok (.iload_n 2, 1) := by decide +kernel
theorem d_Fl_pass_81 : decode b_Fl_pass 81 = .ok (.aload_n 3, 1) := by decide +kernel
theorem d_Fl_pass_82 : decode b_Fl_pass 82 = .ok (.getfield 69, 3) := by decide +kernel
theorem d_Fl_pass_85 : decode b_Fl_pass 85 = .ok (.iastore, 1) := by decide +kernel
theorem d_Fl_pass_86 : decode b_Fl_pass 86 = .ok (.aload_n 0, 1) := by decide +kernel
theorem d_Fl_pass_87 : decode b_Fl_pass 87 = .ok (.getfield 26, 3) := by decide +kernel
theorem d_Fl_pass_90 : decode b_Fl_pass 90 = .ok (.iload_n 2, 1) := by decide +kernel
theorem d_Fl_pass_91 : decode b_Fl_pass 91 = .ok (.aload_n 3, 1) := by decide +kernel
theorem d_Fl_pass_92 : decode b_Fl_pass 92 = .ok (.getfield 72, 3) := by decide +kernel
theorem d_Fl_pass_95 : decode b_Fl_pass 95 = .ok (.iastore, 1) := by decide +kernel
theorem d_Fl_pass_96 : decode b_Fl_pass 96 = .ok (.aload_n 0, 1) := by decide +kernel
theorem d_Fl_pass_97 : decode b_Fl_pass 97 = .ok (.getfield 29, 3) := by decide +kernel
theorem d_Fl_pass_100 : decode b_Fl_pass 100 = .ok (.iload_n 2, 1) := by decide +kernel
theorem d_Fl_pass_101 : decode b_Fl_pass 101 = .ok (.aload_n 3, 1) := by decide +kernel
theorem d_Fl_pass_102 : decode b_Fl_pass 102 = .ok (.iload_n 2, 1) := by decide +kernel
theorem d_Fl_pass_103 : decode b_Fl_pass 103 = .ok (.aload_n 0, 1) := by decide +kernel
theorem d_Fl_pass_104 : decode b_Fl_pass 104 = .ok (.aload_n 1, 1) := by decide +kernel
theorem d_Fl_pass_105 : decode b_Fl_pass 105 = .ok (.iload_n 2, 1) := by decide +kernel
theorem d_Fl_pass_106 : decode b_Fl_pass 106 = .ok (.invokevirtual 75, 3) := by decide +kernel
theorem d_Fl_pass_109 : decode b_Fl_pass 109 = .ok (.invokevirtual 79, 3) := by decide +kernel
theorem d_Fl_pass_112 : decode b_Fl_pass 112 = .ok (.iastore, 1) := by decide +kernel
theorem d_Fl_pass_113 : decode b_Fl_pass 113 = .ok (.iinc 2 1, 3) := by decide +kernel
theorem d_Fl_pass_116 : decode b_Fl_pass 116 = .ok (.goto (-98), 3) := by decide +kernel
theorem d_Fl_pass_119 : decode b_Fl_pass 119 = .ok (.iconst 0, 1) := by decide +kernel
theorem d_Fl_pass_120 : decode b_Fl_pass 120 = .ok (.istore_n 2, 1) := by decide +kernel
theorem d_Fl_pass_121 : decode b_Fl_pass 121 = .ok (.iload_n 2, 1) := by decide +kernel
theorem d_Fl_pass_122 : decode b_Fl_pass 122 = .ok (.aload_n 0, 1) := by decide +kernel
theorem d_Fl_pass_123 : decode b_Fl_pass 123 = .ok (.getfield 12, 3) := by decide +kernel
theorem d_Fl_pass_126 : decode b_Fl_pass 126 = .ok (.getfield 45, 3) := by decide +kernel
theorem d_Fl_pass_129 : decode b_Fl_pass 129 = .ok (.if_icmp .ge 27, 3) := by decide +kernel
theorem d_Fl_pass_132 : decode b_Fl_pass 132 = .ok (.aload_n 1, 1) := by decide +kernel
theorem d_Fl_pass_133 : decode b_Fl_pass 133 = .ok (.getfield 48, 3) := by decide +kernel
theorem d_Fl_pass_136 : decode b_Fl_pass 136 = .ok (.iload_n 2, 1) := by decide +kernel
theorem d_Fl_pass_137 : decode b_Fl_pass 137 = .ok (.aaload, 1) := by decide +kernel
theorem d_Fl_pass_138 : decode b_Fl_pass 138 = .ok (.getfield 52, 3) := by decide +kernel
theorem d_Fl_pass_141 : decode b_Fl_pass 141 = .ok (.ifCond .eq 9, 3) := by decide +kernel
theorem d_Fl_pass_144 : decode b_Fl_pass 144 = .ok (.aload_n 0, 1) := by decide +kernel
theorem d_Fl_pass_145 : decode b_Fl_pass 145 = .ok (.aload_n 1, 1) := by decide +kernel
theorem d_Fl_pass_146 : decode b_Fl_pass 146 = .ok (.iload_n 2, 1) := by decide +kernel
theorem d_Fl_pass_147 : decode b_Fl_pass 147 = .ok (.invokevirtual 83, 3) := by decide +kernel
theorem d_Fl_pass_150 : decode b_Fl_pass 150 = .ok (.iinc 2 1, 3) := by decide +kernel
theorem d_Fl_pass_153 : decode b_Fl_pass 153 = .ok (.goto (-32), 3) := by decide +kernel
theorem d_Fl_pass_156 : decode b_Fl_pass 156 = .ok (.return_, 1) := by decide +kernel
abbrev b_Fl_passMany : ByteArray := prog_2_method_2_code
abbrev y_Fl_passMany : MethodName := ⟨"TimeFlood$Flood", "passMany", "(LTimeFlood$State;I)V"⟩
theorem m_Fl_passMany : MWV y_Fl_passMany b_Fl_passMany 4 none 2 := ⟨wd_474, wd_475, wd_4, wd_476, by decide, by decide, by decide +kernel⟩
theorem d_Fl_passMany_0 : decode b_Fl_passMany 0 = .ok (.iconst 0, 1) := by decide +kernel
theorem d_Fl_passMany_1 : decode b_Fl_passMany 1 = .ok (.istore_n 3, 1) := by decide +kernel
theorem d_Fl_passMany_2 : decode b_Fl_passMany 2 = .ok (.iload_n 3, 1) := by decide +kernel
theorem d_Fl_passMany_3 : decode b_Fl_passMany 3 = .ok (.iload_n 2, 1) := by decide +kernel
theorem d_Fl_passMany_4 : decode b_Fl_passMany 4 = .ok (.if_icmp .ge 14, 3) := by decide +kernel
theorem d_Fl_passMany_7 : decode b_Fl_passMany 7 = .ok (.aload_n 0, 1) := by decide +kernel
theorem d_Fl_passMany_8 : decode b_Fl_passMany 8 = .ok (.aload_n 1, 1) := by decide +kernel
theorem d_Fl_passMany_9 : decode b_Fl_passMany 9 = .ok (.invokevirtual 32, 3) := by decide +kernel
theorem d_Fl_passMany_12 : decode b_Fl_passMany 12 = .ok (.iinc 3 1, 3) := by decide +kernel
theorem d_Fl_passMany_15 : decode b_Fl_passMany 15 = .ok (.goto (-13), 3) := by decide +kernel
theorem d_Fl_passMany_18 : decode b_Fl_passMany 18 = .ok (.return_, 1) := by decide +kernel
abbrev b_In_bitCount : ByteArray := prog_11_method_49_code
abbrev y_In_bitCount : MethodName := ⟨"java/lang/Integer", "bitCount", "(I)I"⟩
theorem m_In_bitCount : MWS y_In_bitCount b_In_bitCount 1 (Option.some FieldType.int) 1 := ⟨wd_516, wd_12, wd_517, by decide, by decide, by decide +kernel⟩
theorem d_In_bitCount_0 : decode b_In_bitCount 0 = .ok (.iload_n 0, 1) := by decide +kernel
theorem d_In_bitCount_1 : decode b_In_bitCount 1 = .ok (.iload_n 0, 1) := by decide +kernel
theorem d_In_bitCount_2 : decode b_In_bitCount 2 = .ok (.iconst 1, 1) := by decide +kernel
theorem d_In_bitCount_3 : decode b_In_bitCount 3 = .ok (.iushr, 1) := by decide +kernel
theorem d_In_bitCount_4 : decode b_In_bitCount 4 = .ok (.ldc_w 265, 3) := by decide +kernel
theorem d_In_bitCount_7 : decode b_In_bitCount 7 = .ok (.iand, 1) := by decide +kernel
theorem d_In_bitCount_8 : decode b_In_bitCount 8 = .ok (.isub, 1) := by decide +kernel
theorem d_In_bitCount_9 : decode b_In_bitCount 9 = .ok (.istore_n 0, 1) := by decide +kernel
theorem d_In_bitCount_10 : decode b_In_bitCount 10 = .ok (.iload_n 0, 1) := by decide +kernel
theorem d_In_bitCount_11 : decode b_In_bitCount 11 = .ok (.ldc_w 266, 3) := by decide +kernel
theorem d_In_bitCount_14 : decode b_In_bitCount 14 = .ok (.iand, 1) := by decide +kernel
theorem d_In_bitCount_15 : decode b_In_bitCount 15 = .ok (.iload_n 0, 1) := by decide +kernel
theorem d_In_bitCount_16 : decode b_In_bitCount 16 = .ok (.iconst 2, 1) := by decide +kernel
theorem d_In_bitCount_17 : decode b_In_bitCount 17 = .ok (.iushr, 1) := by decide +kernel
theorem d_In_bitCount_18 : decode b_In_bitCount 18 = .ok (.ldc_w 266, 3) := by decide +kernel
theorem d_In_bitCount_21 : decode b_In_bitCount 21 = .ok (.iand, 1) := by decide +kernel
theorem d_In_bitCount_22 : decode b_In_bitCount 22 = .ok (.iadd, 1) := by decide +kernel
theorem d_In_bitCount_23 : decode b_In_bitCount 23 = .ok (.istore_n 0, 1) := by decide +kernel
theorem d_In_bitCount_24 : decode b_In_bitCount 24 = .ok (.iload_n 0, 1) := by decide +kernel
theorem d_In_bitCount_25 : decode b_In_bitCount 25 = .ok (.iload_n 0, 1) := by decide +kernel
theorem d_In_bitCount_26 : decode b_In_bitCount 26 = .ok (.iconst 4, 1) := by decide +kernel
theorem d_In_bitCount_27 : decode b_In_bitCount 27 = .ok (.iushr, 1) := by decide +kernel
theorem d_In_bitCount_28 : decode b_In_bitCount 28 = .ok (.iadd, 1) := by decide +kernel
theorem d_In_bitCount_29 : decode b_In_bitCount 29 = .ok (.ldc_w 267, 3) := by decide +kernel
theorem d_In_bitCount_32 : decode b_In_bitCount 32 = .ok (.iand, 1) := by decide +kernel
theorem d_In_bitCount_33 : decode b_In_bitCount 33 = .ok (.istore_n 0, 1) := by decide +kernel
theorem d_In_bitCount_34 : decode b_In_bitCount 34 = .ok (.iload_n 0, 1) := by decide +kernel
theorem d_In_bitCount_35 : decode b_In_bitCount 35 = .ok (.iload_n 0, 1) := by decide +kernel
theorem d_In_bitCount_36 : decode b_In_bitCount 36 = .ok (.bipush 8, 2) := by decide +kernel
theorem d_In_bitCount_38 : decode b_In_bitCount 38 = .ok (.iushr, 1) := by decide +kernel
theorem d_In_bitCount_39 : decode b_In_bitCount 39 = .ok (.iadd, 1) := by decide +kernel
theorem d_In_bitCount_40 : decode b_In_bitCount 40 = .ok (.istore_n 0, 1) := by decide +kernel
theorem d_In_bitCount_41 : decode b_In_bitCount 41 = .ok (.iload_n 0, 1) := by decide +kernel
theorem d_In_bitCount_42 : decode b_In_bitCount 42 = .ok (.iload_n 0, 1) := by decide +kernel
theorem d_In_bitCount_43 : decode b_In_bitCount 43 = .ok (.bipush 16, 2) := by decide +kernel
theorem d_In_bitCount_45 : decode b_In_bitCount 45 = .ok (.iushr, 1) := by decide +kernel
theorem d_In_bitCount_46 : decode b_In_bitCount 46 = .ok (.iadd, 1) := by decide +kernel
theorem d_In_bitCount_47 : decode b_In_bitCount 47 = .ok (.istore_n 0, 1) := by decide +kernel
theorem d_In_bitCount_48 : decode b_In_bitCount 48 = .ok (.iload_n 0, 1) := by decide +kernel
theorem d_In_bitCount_49 : decode b_In_bitCount 49 = .ok (.bipush 63, 2) := by decide +kernel
theorem d_In_bitCount_51 : decode b_In_bitCount 51 = .ok (.iand, 1) := by decide +kernel
theorem d_In_bitCount_52 : decode b_In_bitCount 52 = .ok (.ireturn, 1) := by decide +kernel
abbrev b_TF_period : ByteArray := prog_1_method_10_code
abbrev y_TF_period : MethodName := ⟨"TimeFlood", "period", "(I)I"⟩
theorem m_TF_period : MWV y_TF_period b_TF_period 2 (Option.some FieldType.int) 1 := ⟨wd_454, wd_455, wd_1, wd_456, by decide, by decide, by decide +kernel⟩
theorem d_TF_period_0 : decode b_TF_period 0 = .ok (.iload_n 1, 1) := by decide +kernel
theorem d_TF_period_1 : decode b_TF_period 1 = .ok (.iconst 1, 1) := by decide +kernel
theorem d_TF_period_2 : decode b_TF_period 2 = .ok (.if_icmp .lt 9, 3) := by decide +kernel
theorem d_TF_period_5 : decode b_TF_period 5 = .ok (.iload_n 1, 1) := by decide +kernel
theorem d_TF_period_6 : decode b_TF_period 6 = .ok (.bipush 99, 2) := by decide +kernel
theorem d_TF_period_8 : decode b_TF_period 8 = .ok (.if_icmp .le 6, 3) := by decide +kernel
theorem d_TF_period_11 : decode b_TF_period 11 = .ok (.bipush (-2), 2) := by decide +kernel
theorem d_TF_period_13 : decode b_TF_period 13 = .ok (.ireturn, 1) := by decide +kernel
theorem d_TF_period_14 : decode b_TF_period 14 = .ok (.aload_n 0, 1) := by decide +kernel
theorem d_TF_period_15 : decode b_TF_period 15 = .ok (.getfield 49, 3) := by decide +kernel
theorem d_TF_period_18 : decode b_TF_period 18 = .ok (.aload_n 0, 1) := by decide +kernel
theorem d_TF_period_19 : decode b_TF_period 19 = .ok (.getfield 39, 3) := by decide +kernel
theorem d_TF_period_22 : decode b_TF_period 22 = .ok (.invokevirtual 166, 3) := by decide +kernel
theorem d_TF_period_25 : decode b_TF_period 25 = .ok (.aload_n 0, 1) := by decide +kernel
theorem d_TF_period_26 : decode b_TF_period 26 = .ok (.getfield 27, 3) := by decide +kernel
theorem d_TF_period_29 : decode b_TF_period 29 = .ok (.aload_n 0, 1) := by decide +kernel
theorem d_TF_period_30 : decode b_TF_period 30 = .ok (.getfield 39, 3) := by decide +kernel
theorem d_TF_period_33 : decode b_TF_period 33 = .ok (.iload_n 1, 1) := by decide +kernel
theorem d_TF_period_34 : decode b_TF_period 34 = .ok (.invokevirtual 170, 3) := by decide +kernel
theorem d_TF_period_37 : decode b_TF_period 37 = .ok (.aload_n 0, 1) := by decide +kernel
theorem d_TF_period_38 : decode b_TF_period 38 = .ok (.getfield 27, 3) := by decide +kernel
theorem d_TF_period_41 : decode b_TF_period 41 = .ok (.aload_n 0, 1) := by decide +kernel
theorem d_TF_period_42 : decode b_TF_period 42 = .ok (.getfield 39, 3) := by decide +kernel
theorem d_TF_period_45 : decode b_TF_period 45 = .ok (.invokevirtual 116, 3) := by decide +kernel
theorem d_TF_period_48 : decode b_TF_period 48 = .ok (.invokestatic 174, 3) := by decide +kernel
theorem d_TF_period_51 : decode b_TF_period 51 = .ok (.ireturn, 1) := by decide +kernel
abbrev b_St_flipLink : ByteArray := prog_8_method_5_code
abbrev y_St_flipLink : MethodName := ⟨"TimeFlood$State", "flipLink", "(I)V"⟩
theorem m_St_flipLink : MWV y_St_flipLink b_St_flipLink 2 none 1 := ⟨wd_526, wd_527, wd_5, wd_528, by decide, by decide, by decide +kernel⟩
theorem d_St_flipLink_0 : decode b_St_flipLink 0 = .ok (.aload_n 0, 1) := by decide +kernel
theorem d_St_flipLink_1 : decode b_St_flipLink 1 = .ok (.dup, 1) := by decide +kernel
theorem d_St_flipLink_2 : decode b_St_flipLink 2 = .ok (.getfield 15, 3) := by decide +kernel
theorem d_St_flipLink_5 : decode b_St_flipLink 5 = .ok (.iconst 1, 1) := by decide +kernel
theorem d_St_flipLink_6 : decode b_St_flipLink 6 = .ok (.iload_n 1, 1) := by decide +kernel
theorem d_St_flipLink_7 : decode b_St_flipLink 7 = .ok (.ishl, 1) := by decide +kernel
theorem d_St_flipLink_8 : decode b_St_flipLink 8 = .ok (.ixor, 1) := by decide +kernel
theorem d_St_flipLink_9 : decode b_St_flipLink 9 = .ok (.putfield 15, 3) := by decide +kernel
theorem d_St_flipLink_12 : decode b_St_flipLink 12 = .ok (.return_, 1) := by decide +kernel
abbrev b_TF_turn : ByteArray := prog_1_method_11_code
abbrev y_TF_turn : MethodName := ⟨"TimeFlood", "turn", "(I)I"⟩
theorem m_TF_turn : MWV y_TF_turn b_TF_turn 2 (Option.some FieldType.int) 1 := ⟨wd_522, wd_523, wd_1, wd_524, by decide, by decide, by decide +kernel⟩
theorem d_TF_turn_0 : decode b_TF_turn 0 = .ok (.aload_n 0, 1) := by decide +kernel
theorem d_TF_turn_1 : decode b_TF_turn 1 = .ok (.iload_n 1, 1) := by decide +kernel
theorem d_TF_turn_2 : decode b_TF_turn 2 = .ok (.invokevirtual 153, 3) := by decide +kernel
theorem d_TF_turn_5 : decode b_TF_turn 5 = .ok (.ifCond .ne 5, 3) := by decide +kernel
theorem d_TF_turn_8 : decode b_TF_turn 8 = .ok (.iconst (-1), 1) := by decide +kernel
theorem d_TF_turn_9 : decode b_TF_turn 9 = .ok (.ireturn, 1) := by decide +kernel
theorem d_TF_turn_10 : decode b_TF_turn 10 = .ok (.aload_n 0, 1) := by decide +kernel
theorem d_TF_turn_11 : decode b_TF_turn 11 = .ok (.getfield 49, 3) := by decide +kernel
theorem d_TF_turn_14 : decode b_TF_turn 14 = .ok (.aload_n 0, 1) := by decide +kernel
theorem d_TF_turn_15 : decode b_TF_turn 15 = .ok (.getfield 39, 3) := by decide +kernel
theorem d_TF_turn_18 : decode b_TF_turn 18 = .ok (.invokevirtual 166, 3) := by decide +kernel
theorem d_TF_turn_21 : decode b_TF_turn 21 = .ok (.aload_n 0, 1) := by decide +kernel
theorem d_TF_turn_22 : decode b_TF_turn 22 = .ok (.getfield 39, 3) := by decide +kernel
theorem d_TF_turn_25 : decode b_TF_turn 25 = .ok (.iload_n 1, 1) := by decide +kernel
theorem d_TF_turn_26 : decode b_TF_turn 26 = .ok (.invokevirtual 180, 3) := by decide +kernel
theorem d_TF_turn_29 : decode b_TF_turn 29 = .ok (.aload_n 0, 1) := by decide +kernel
theorem d_TF_turn_30 : decode b_TF_turn 30 = .ok (.getfield 39, 3) := by decide +kernel
theorem d_TF_turn_33 : decode b_TF_turn 33 = .ok (.iload_n 1, 1) := by decide +kernel
theorem d_TF_turn_34 : decode b_TF_turn 34 = .ok (.invokevirtual 163, 3) := by decide +kernel
theorem d_TF_turn_37 : decode b_TF_turn 37 = .ok (.ifCond .eq 7, 3) := by decide +kernel
theorem d_TF_turn_40 : decode b_TF_turn 40 = .ok (.iconst 1, 1) := by decide +kernel
theorem d_TF_turn_41 : decode b_TF_turn 41 = .ok (.goto 4, 3) := by decide +kernel
theorem d_TF_turn_44 : decode b_TF_turn 44 = .ok (.iconst 0, 1) := by decide +kernel
theorem d_TF_turn_45 : decode b_TF_turn 45 = .ok (.ireturn, 1) := by decide +kernel
abbrev b_Nd_flipPower : ByteArray := prog_4_method_4_code
abbrev y_Nd_flipPower : MethodName := ⟨"TimeFlood$Node", "flipPower", "()V"⟩
theorem m_Nd_flipPower : MWV y_Nd_flipPower b_Nd_flipPower 1 none 0 := ⟨wd_534, wd_535, wd_6, wd_536, by decide, by decide, by decide +kernel⟩
theorem d_Nd_flipPower_0 : decode b_Nd_flipPower 0 = .ok (.aload_n 0, 1) := by decide +kernel
theorem d_Nd_flipPower_1 : decode b_Nd_flipPower 1 = .ok (.aload_n 0, 1) := by decide +kernel
theorem d_Nd_flipPower_2 : decode b_Nd_flipPower 2 = .ok (.getfield 9, 3) := by decide +kernel
theorem d_Nd_flipPower_5 : decode b_Nd_flipPower 5 = .ok (.ifCond .ne 7, 3) := by decide +kernel
theorem d_Nd_flipPower_8 : decode b_Nd_flipPower 8 = .ok (.iconst 1, 1) := by decide +kernel
theorem d_Nd_flipPower_9 : decode b_Nd_flipPower 9 = .ok (.goto 4, 3) := by decide +kernel
theorem d_Nd_flipPower_12 : decode b_Nd_flipPower 12 = .ok (.iconst 0, 1) := by decide +kernel
theorem d_Nd_flipPower_13 : decode b_Nd_flipPower 13 = .ok (.putfield 9, 3) := by decide +kernel
theorem d_Nd_flipPower_16 : decode b_Nd_flipPower 16 = .ok (.aload_n 0, 1) := by decide +kernel
theorem d_Nd_flipPower_17 : decode b_Nd_flipPower 17 = .ok (.getfield 9, 3) := by decide +kernel
theorem d_Nd_flipPower_20 : decode b_Nd_flipPower 20 = .ok (.ifCond .eq 7, 3) := by decide +kernel
theorem d_Nd_flipPower_23 : decode b_Nd_flipPower 23 = .ok (.aload_n 0, 1) := by decide +kernel
theorem d_Nd_flipPower_24 : decode b_Nd_flipPower 24 = .ok (.invokevirtual 50, 3) := by decide +kernel
theorem d_Nd_flipPower_27 : decode b_Nd_flipPower 27 = .ok (.return_, 1) := by decide +kernel
abbrev b_TF_power : ByteArray := prog_1_method_12_code
abbrev y_TF_power : MethodName := ⟨"TimeFlood", "power", "(I)I"⟩
theorem m_TF_power : MWV y_TF_power b_TF_power 2 (Option.some FieldType.int) 1 := ⟨wd_530, wd_531, wd_1, wd_532, by decide, by decide, by decide +kernel⟩
theorem d_TF_power_0 : decode b_TF_power 0 = .ok (.aload_n 0, 1) := by decide +kernel
theorem d_TF_power_1 : decode b_TF_power 1 = .ok (.iload_n 1, 1) := by decide +kernel
theorem d_TF_power_2 : decode b_TF_power 2 = .ok (.invokevirtual 131, 3) := by decide +kernel
theorem d_TF_power_5 : decode b_TF_power 5 = .ok (.ifCond .ne 5, 3) := by decide +kernel
theorem d_TF_power_8 : decode b_TF_power 8 = .ok (.iconst (-1), 1) := by decide +kernel
theorem d_TF_power_9 : decode b_TF_power 9 = .ok (.ireturn, 1) := by decide +kernel
theorem d_TF_power_10 : decode b_TF_power 10 = .ok (.aload_n 0, 1) := by decide +kernel
theorem d_TF_power_11 : decode b_TF_power 11 = .ok (.getfield 49, 3) := by decide +kernel
theorem d_TF_power_14 : decode b_TF_power 14 = .ok (.aload_n 0, 1) := by decide +kernel
theorem d_TF_power_15 : decode b_TF_power 15 = .ok (.getfield 39, 3) := by decide +kernel
theorem d_TF_power_18 : decode b_TF_power 18 = .ok (.invokevirtual 166, 3) := by decide +kernel
theorem d_TF_power_21 : decode b_TF_power 21 = .ok (.aload_n 0, 1) := by decide +kernel
theorem d_TF_power_22 : decode b_TF_power 22 = .ok (.getfield 39, 3) := by decide +kernel
theorem d_TF_power_25 : decode b_TF_power 25 = .ok (.getfield 139, 3) := by decide +kernel
theorem d_TF_power_28 : decode b_TF_power 28 = .ok (.iload_n 1, 1) := by decide +kernel
theorem d_TF_power_29 : decode b_TF_power 29 = .ok (.aaload, 1) := by decide +kernel
theorem d_TF_power_30 : decode b_TF_power 30 = .ok (.invokevirtual 184, 3) := by decide +kernel
theorem d_TF_power_33 : decode b_TF_power 33 = .ok (.aload_n 0, 1) := by decide +kernel
theorem d_TF_power_34 : decode b_TF_power 34 = .ok (.getfield 39, 3) := by decide +kernel
theorem d_TF_power_37 : decode b_TF_power 37 = .ok (.getfield 139, 3) := by decide +kernel
theorem d_TF_power_40 : decode b_TF_power 40 = .ok (.iload_n 1, 1) := by decide +kernel
theorem d_TF_power_41 : decode b_TF_power 41 = .ok (.aaload, 1) := by decide +kernel
theorem d_TF_power_42 : decode b_TF_power 42 = .ok (.getfield 143, 3) := by decide +kernel
theorem d_TF_power_45 : decode b_TF_power 45 = .ok (.ifCond .eq 7, 3) := by decide +kernel
theorem d_TF_power_48 : decode b_TF_power 48 = .ok (.iconst 1, 1) := by decide +kernel
theorem d_TF_power_49 : decode b_TF_power 49 = .ok (.goto 4, 3) := by decide +kernel
theorem d_TF_power_52 : decode b_TF_power 52 = .ok (.iconst 0, 1) := by decide +kernel
theorem d_TF_power_53 : decode b_TF_power 53 = .ok (.ireturn, 1) := by decide +kernel
abbrev b_TF_drift : ByteArray := prog_1_method_13_code
abbrev y_TF_drift : MethodName := ⟨"TimeFlood", "drift", "(II)I"⟩
theorem m_TF_drift : MWV y_TF_drift b_TF_drift 3 (Option.some FieldType.int) 2 := ⟨wd_539, wd_540, wd_1, wd_541, by decide, by decide, by decide +kernel⟩
theorem d_TF_drift_0 : decode b_TF_drift 0 = .ok (.aload_n 0, 1) := by decide +kernel
theorem d_TF_drift_1 : decode b_TF_drift 1 = .ok (.iload_n 1, 1) := by decide +kernel
theorem d_TF_drift_2 : decode b_TF_drift 2 = .ok (.invokevirtual 131, 3) := by decide +kernel
theorem d_TF_drift_5 : decode b_TF_drift 5 = .ok (.ifCond .ne 5, 3) := by decide +kernel
theorem d_TF_drift_8 : decode b_TF_drift 8 = .ok (.iconst (-1), 1) := by decide +kernel
theorem d_TF_drift_9 : decode b_TF_drift 9 = .ok (.ireturn, 1) := by decide +kernel
theorem d_TF_drift_10 : decode b_TF_drift 10 = .ok (.iload_n 2, 1) := by decide +kernel
theorem d_TF_drift_11 : decode b_TF_drift 11 = .ok (.bipush (-4), 2) := by decide +kernel
theorem d_TF_drift_13 : decode b_TF_drift 13 = .ok (.if_icmp .lt 8, 3) := by decide +kernel
theorem d_TF_drift_16 : decode b_TF_drift 16 = .ok (.iload_n 2, 1) := by decide +kernel
theorem d_TF_drift_17 : decode b_TF_drift 17 = .ok (.iconst 5, 1) := by decide +kernel
theorem d_TF_drift_18 : decode b_TF_drift 18 = .ok (.if_icmp .le 6, 3) := by decide +kernel
theorem d_TF_drift_21 : decode b_TF_drift 21 = .ok (.bipush (-2), 2) := by decide +kernel
theorem d_TF_drift_23 : decode b_TF_drift 23 = .ok (.ireturn, 1) := by decide +kernel
theorem d_TF_drift_24 : decode b_TF_drift 24 = .ok (.aload_n 0, 1) := by decide +kernel
theorem d_TF_drift_25 : decode b_TF_drift 25 = .ok (.getfield 49, 3) := by decide +kernel
theorem d_TF_drift_28 : decode b_TF_drift 28 = .ok (.aload_n 0, 1) := by decide +kernel
theorem d_TF_drift_29 : decode b_TF_drift 29 = .ok (.getfield 39, 3) := by decide +kernel
theorem d_TF_drift_32 : decode b_TF_drift 32 = .ok (.invokevirtual 166, 3) := by decide +kernel
theorem d_TF_drift_35 : decode b_TF_drift 35 = .ok (.aload_n 0, 1) := by decide +kernel
theorem d_TF_drift_36 : decode b_TF_drift 36 = .ok (.getfield 39, 3) := by decide +kernel
theorem d_TF_drift_39 : decode b_TF_drift 39 = .ok (.getfield 139, 3) := by decide +kernel
theorem d_TF_drift_42 : decode b_TF_drift 42 = .ok (.iload_n 1, 1) := by decide +kernel
theorem d_TF_drift_43 : decode b_TF_drift 43 = .ok (.aaload, 1) := by decide +kernel
theorem d_TF_drift_44 : decode b_TF_drift 44 = .ok (.iload_n 2, 1) := by decide +kernel
theorem d_TF_drift_45 : decode b_TF_drift 45 = .ok (.putfield 187, 3) := by decide +kernel
theorem d_TF_drift_48 : decode b_TF_drift 48 = .ok (.aload_n 0, 1) := by decide +kernel
theorem d_TF_drift_49 : decode b_TF_drift 49 = .ok (.getfield 27, 3) := by decide +kernel
theorem d_TF_drift_52 : decode b_TF_drift 52 = .ok (.aload_n 0, 1) := by decide +kernel
theorem d_TF_drift_53 : decode b_TF_drift 53 = .ok (.getfield 39, 3) := by decide +kernel
theorem d_TF_drift_56 : decode b_TF_drift 56 = .ok (.iload_n 1, 1) := by decide +kernel
theorem d_TF_drift_57 : decode b_TF_drift 57 = .ok (.invokevirtual 190, 3) := by decide +kernel
theorem d_TF_drift_60 : decode b_TF_drift 60 = .ok (.ireturn, 1) := by decide +kernel
abbrev b_Jr_pop : ByteArray := prog_3_method_4_code
abbrev y_Jr_pop : MethodName := ⟨"TimeFlood$Journal", "pop", "(LTimeFlood$State;)V"⟩
theorem m_Jr_pop : MWV y_Jr_pop b_Jr_pop 2 none 1 := ⟨wd_548, wd_549, wd_7, wd_550, by decide, by decide, by decide +kernel⟩
theorem d_Jr_pop_0 : decode b_Jr_pop 0 = .ok (.aload_n 0, 1) := by decide +kernel
theorem d_Jr_pop_1 : decode b_Jr_pop 1 = .ok (.getfield 21, 3) := by decide +kernel
theorem d_Jr_pop_4 : decode b_Jr_pop 4 = .ok (.ifCond .le 42, 3) := by decide +kernel
theorem d_Jr_pop_7 : decode b_Jr_pop 7 = .ok (.aload_n 0, 1) := by decide +kernel
theorem d_Jr_pop_8 : decode b_Jr_pop 8 = .ok (.aload_n 0, 1) := by decide +kernel
theorem d_Jr_pop_9 : decode b_Jr_pop 9 = .ok (.getfield 17, 3) := by decide +kernel
theorem d_Jr_pop_12 : decode b_Jr_pop 12 = .ok (.bipush 14, 2) := by decide +kernel
theorem d_Jr_pop_14 : decode b_Jr_pop 14 = .ok (.iadd, 1) := by decide +kernel
theorem d_Jr_pop_15 : decode b_Jr_pop 15 = .ok (.iconst 1, 1) := by decide +kernel
theorem d_Jr_pop_16 : decode b_Jr_pop 16 = .ok (.isub, 1) := by decide +kernel
theorem d_Jr_pop_17 : decode b_Jr_pop 17 = .ok (.bipush 14, 2) := by decide +kernel
theorem d_Jr_pop_19 : decode b_Jr_pop 19 = .ok (.irem, 1) := by decide +kernel
theorem d_Jr_pop_20 : decode b_Jr_pop 20 = .ok (.putfield 17, 3) := by decide +kernel
theorem d_Jr_pop_23 : decode b_Jr_pop 23 = .ok (.aload_n 0, 1) := by decide +kernel
theorem d_Jr_pop_24 : decode b_Jr_pop 24 = .ok (.dup, 1) := by decide +kernel
theorem d_Jr_pop_25 : decode b_Jr_pop 25 = .ok (.getfield 21, 3) := by decide +kernel
theorem d_Jr_pop_28 : decode b_Jr_pop 28 = .ok (.iconst 1, 1) := by decide +kernel
theorem d_Jr_pop_29 : decode b_Jr_pop 29 = .ok (.isub, 1) := by decide +kernel
theorem d_Jr_pop_30 : decode b_Jr_pop 30 = .ok (.putfield 21, 3) := by decide +kernel
theorem d_Jr_pop_33 : decode b_Jr_pop 33 = .ok (.aload_n 1, 1) := by decide +kernel
theorem d_Jr_pop_34 : decode b_Jr_pop 34 = .ok (.aload_n 0, 1) := by decide +kernel
theorem d_Jr_pop_35 : decode b_Jr_pop 35 = .ok (.getfield 11, 3) := by decide +kernel
theorem d_Jr_pop_38 : decode b_Jr_pop 38 = .ok (.aload_n 0, 1) := by decide +kernel
theorem d_Jr_pop_39 : decode b_Jr_pop 39 = .ok (.getfield 17, 3) := by decide +kernel
theorem d_Jr_pop_42 : decode b_Jr_pop 42 = .ok (.aaload, 1) := by decide +kernel
theorem d_Jr_pop_43 : decode b_Jr_pop 43 = .ok (.invokevirtual 25, 3) := by decide +kernel
theorem d_Jr_pop_46 : decode b_Jr_pop 46 = .ok (.return_, 1) := by decide +kernel
abbrev b_TF_undo : ByteArray := prog_1_method_14_code
abbrev y_TF_undo : MethodName := ⟨"TimeFlood", "undo", "()I"⟩
theorem m_TF_undo : MWV y_TF_undo b_TF_undo 1 (Option.some FieldType.int) 0 := ⟨wd_544, wd_545, wd_1, wd_546, by decide, by decide, by decide +kernel⟩
theorem d_TF_undo_0 : decode b_TF_undo 0 = .ok (.aload_n 0, 1) := by decide +kernel
theorem d_TF_undo_1 : decode b_TF_undo 1 = .ok (.getfield 49, 3) := by decide +kernel
theorem d_TF_undo_4 : decode b_TF_undo 4 = .ok (.getfield 127, 3) := by decide +kernel
theorem d_TF_undo_7 : decode b_TF_undo 7 = .ok (.ifCond .ne 6, 3) := by decide +kernel
theorem d_TF_undo_10 : decode b_TF_undo 10 = .ok (.bipush (-3), 2) := by decide +kernel
theorem d_TF_undo_12 : decode b_TF_undo 12 = .ok (.ireturn, 1) := by decide +kernel
theorem d_TF_undo_13 : decode b_TF_undo 13 = .ok (.aload_n 0, 1) := by decide +kernel
theorem d_TF_undo_14 : decode b_TF_undo 14 = .ok (.getfield 49, 3) := by decide +kernel
theorem d_TF_undo_17 : decode b_TF_undo 17 = .ok (.aload_n 0, 1) := by decide +kernel
theorem d_TF_undo_18 : decode b_TF_undo 18 = .ok (.getfield 39, 3) := by decide +kernel
theorem d_TF_undo_21 : decode b_TF_undo 21 = .ok (.invokevirtual 194, 3) := by decide +kernel
theorem d_TF_undo_24 : decode b_TF_undo 24 = .ok (.aload_n 0, 1) := by decide +kernel
theorem d_TF_undo_25 : decode b_TF_undo 25 = .ok (.getfield 49, 3) := by decide +kernel
theorem d_TF_undo_28 : decode b_TF_undo 28 = .ok (.getfield 127, 3) := by decide +kernel
theorem d_TF_undo_31 : decode b_TF_undo 31 = .ok (.ireturn, 1) := by decide +kernel
abbrev b_TF_ahead : ByteArray := prog_1_method_15_code
abbrev y_TF_ahead : MethodName := ⟨"TimeFlood", "ahead", "(III)I"⟩
theorem m_TF_ahead : MWV y_TF_ahead b_TF_ahead 4 (Option.some FieldType.int) 3 := ⟨wd_552, wd_553, wd_1, wd_554, by decide, by decide, by decide +kernel⟩
theorem d_TF_ahead_0 : decode b_TF_ahead 0 = .ok (.aload_n 0, 1) := by decide +kernel
theorem d_TF_ahead_1 : decode b_TF_ahead 1 = .ok (.iload_n 2, 1) := by decide +kernel
theorem d_TF_ahead_2 : decode b_TF_ahead 2 = .ok (.invokevirtual 131, 3) := by decide +kernel
theorem d_TF_ahead_5 : decode b_TF_ahead 5 = .ok (.ifCond .ne 5, 3) := by decide +kernel
theorem d_TF_ahead_8 : decode b_TF_ahead 8 = .ok (.iconst (-1), 1) := by decide +kernel
theorem d_TF_ahead_9 : decode b_TF_ahead 9 = .ok (.ireturn, 1) := by decide +kernel
theorem d_TF_ahead_10 : decode b_TF_ahead 10 = .ok (.iload_n 1, 1) := by decide +kernel
theorem d_TF_ahead_11 : decode b_TF_ahead 11 = .ok (.ifCond .lt 20, 3) := by decide +kernel
theorem d_TF_ahead_14 : decode b_TF_ahead 14 = .ok (.iload_n 1, 1) := by decide +kernel
theorem d_TF_ahead_15 : decode b_TF_ahead 15 = .ok (.bipush 99, 2) := by decide +kernel
theorem d_TF_ahead_17 : decode b_TF_ahead 17 = .ok (.if_icmp .gt 14, 3) := by decide +kernel
theorem d_TF_ahead_20 : decode b_TF_ahead 20 = .ok (.iload_n 3, 1) := by decide +kernel
theorem d_TF_ahead_21 : decode b_TF_ahead 21 = .ok (.iconst 2, 1) := by decide +kernel
theorem d_TF_ahead_22 : decode b_TF_ahead 22 = .ok (.if_icmp .lt 9, 3) := by decide +kernel
theorem d_TF_ahead_25 : decode b_TF_ahead 25 = .ok (.iload_n 3, 1) := by decide +kernel
theorem d_TF_ahead_26 : decode b_TF_ahead 26 = .ok (.bipush 10, 2) := by decide +kernel
theorem d_TF_ahead_28 : decode b_TF_ahead 28 = .ok (.if_icmp .le 6, 3) := by decide +kernel
theorem d_TF_ahead_31 : decode b_TF_ahead 31 = .ok (.bipush (-2), 2) := by decide +kernel
theorem d_TF_ahead_33 : decode b_TF_ahead 33 = .ok (.ireturn, 1) := by decide +kernel
theorem d_TF_ahead_34 : decode b_TF_ahead 34 = .ok (.aload_n 0, 1) := by decide +kernel
theorem d_TF_ahead_35 : decode b_TF_ahead 35 = .ok (.getfield 43, 3) := by decide +kernel
theorem d_TF_ahead_38 : decode b_TF_ahead 38 = .ok (.aload_n 0, 1) := by decide +kernel
theorem d_TF_ahead_39 : decode b_TF_ahead 39 = .ok (.getfield 39, 3) := by decide +kernel
theorem d_TF_ahead_42 : decode b_TF_ahead 42 = .ok (.invokevirtual 197, 3) := by decide +kernel
theorem d_TF_ahead_45 : decode b_TF_ahead 45 = .ok (.aload_n 0, 1) := by decide +kernel
theorem d_TF_ahead_46 : decode b_TF_ahead 46 = .ok (.getfield 27, 3) := by decide +kernel
theorem d_TF_ahead_49 : decode b_TF_ahead 49 = .ok (.aload_n 0, 1) := by decide +kernel
theorem d_TF_ahead_50 : decode b_TF_ahead 50 = .ok (.getfield 43, 3) := by decide +kernel
theorem d_TF_ahead_53 : decode b_TF_ahead 53 = .ok (.iload_n 1, 1) := by decide +kernel
theorem d_TF_ahead_54 : decode b_TF_ahead 54 = .ok (.invokevirtual 170, 3) := by decide +kernel
theorem d_TF_ahead_57 : decode b_TF_ahead 57 = .ok (.aload_n 0, 1) := by decide +kernel
theorem d_TF_ahead_58 : decode b_TF_ahead 58 = .ok (.getfield 27, 3) := by decide +kernel
theorem d_TF_ahead_61 : decode b_TF_ahead 61 = .ok (.aload_n 0, 1) := by decide +kernel
theorem d_TF_ahead_62 : decode b_TF_ahead 62 = .ok (.getfield 43, 3) := by decide +kernel
theorem d_TF_ahead_65 : decode b_TF_ahead 65 = .ok (.iload_n 2, 1) := by decide +kernel
theorem d_TF_ahead_66 : decode b_TF_ahead 66 = .ok (.iload_n 3, 1) := by decide +kernel
theorem d_TF_ahead_67 : decode b_TF_ahead 67 = .ok (.invokevirtual 135, 3) := by decide +kernel
theorem d_TF_ahead_70 : decode b_TF_ahead 70 = .ok (.ireturn, 1) := by decide +kernel
abbrev b_TF_agree : ByteArray := prog_1_method_16_code
abbrev y_TF_agree : MethodName := ⟨"TimeFlood", "agree", "()I"⟩
theorem m_TF_agree : MWV y_TF_agree b_TF_agree 2 (Option.some FieldType.int) 0 := ⟨wd_557, wd_558, wd_1, wd_559, by decide, by decide, by decide +kernel⟩
theorem d_TF_agree_0 : decode b_TF_agree 0 = .ok (.aload_n 0, 1) := by decide +kernel
theorem d_TF_agree_1 : decode b_TF_agree 1 = .ok (.getfield 43, 3) := by decide +kernel
theorem d_TF_agree_4 : decode b_TF_agree 4 = .ok (.aload_n 0, 1) := by decide +kernel
theorem d_TF_agree_5 : decode b_TF_agree 5 = .ok (.getfield 39, 3) := by decide +kernel
theorem d_TF_agree_8 : decode b_TF_agree 8 = .ok (.invokevirtual 197, 3) := by decide +kernel
theorem d_TF_agree_11 : decode b_TF_agree 11 = .ok (.iconst 0, 1) := by decide +kernel
theorem d_TF_agree_12 : decode b_TF_agree 12 = .ok (.istore_n 1, 1) := by decide +kernel
theorem d_TF_agree_13 : decode b_TF_agree 13 = .ok (.iload_n 1, 1) := by decide +kernel
theorem d_TF_agree_14 : decode b_TF_agree 14 = .ok (.bipush 60, 2) := by decide +kernel
theorem d_TF_agree_16 : decode b_TF_agree 16 = .ok (.if_icmp .gt 32, 3) := by decide +kernel
theorem d_TF_agree_19 : decode b_TF_agree 19 = .ok (.aload_n 0, 1) := by decide +kernel
theorem d_TF_agree_20 : decode b_TF_agree 20 = .ok (.getfield 43, 3) := by decide +kernel
theorem d_TF_agree_23 : decode b_TF_agree 23 = .ok (.invokevirtual 123, 3) := by decide +kernel
theorem d_TF_agree_26 : decode b_TF_agree 26 = .ok (.ifCond .eq 5, 3) := by decide +kernel
theorem d_TF_agree_29 : decode b_TF_agree 29 = .ok (.iload_n 1, 1) := by decide +kernel
theorem d_TF_agree_30 : decode b_TF_agree 30 = .ok (.ireturn, 1) := by decide +kernel
theorem d_TF_agree_31 : decode b_TF_agree 31 = .ok (.aload_n 0, 1) := by decide +kernel
theorem d_TF_agree_32 : decode b_TF_agree 32 = .ok (.getfield 27, 3) := by decide +kernel
theorem d_TF_agree_35 : decode b_TF_agree 35 = .ok (.aload_n 0, 1) := by decide +kernel
theorem d_TF_agree_36 : decode b_TF_agree 36 = .ok (.getfield 43, 3) := by decide +kernel
theorem d_TF_agree_39 : decode b_TF_agree 39 = .ok (.invokevirtual 199, 3) := by decide +kernel
theorem d_TF_agree_42 : decode b_TF_agree 42 = .ok (.iinc 1 1, 3) := by decide +kernel
theorem d_TF_agree_45 : decode b_TF_agree 45 = .ok (.goto (-32), 3) := by decide +kernel
theorem d_TF_agree_48 : decode b_TF_agree 48 = .ok (.bipush (-9), 2) := by decide +kernel
theorem d_TF_agree_50 : decode b_TF_agree 50 = .ok (.ireturn, 1) := by decide +kernel
abbrev b_TF_holdsOnTrial : ByteArray := prog_1_method_29_code
abbrev y_TF_holdsOnTrial : MethodName := ⟨"TimeFlood", "holdsOnTrial", "(III)Z"⟩
theorem m_TF_holdsOnTrial : MWV y_TF_holdsOnTrial b_TF_holdsOnTrial 4 (Option.some FieldType.boolean) 3 := ⟨wd_570, wp_8, wd_1, wd_571, by decide, by decide, by decide +kernel⟩
theorem d_TF_holdsOnTrial_0 : decode b_TF_holdsOnTrial 0 = .ok (.iload_n 1, 1) := by decide +kernel
theorem d_TF_holdsOnTrial_1 : decode b_TF_holdsOnTrial 1 = .ok (.tableswitch 235 1 6 #[39, 71, 95, 123, 157, 190], 39) := by decide +kernel
theorem d_TF_holdsOnTrial_40 : decode b_TF_holdsOnTrial 40 = .ok (.aload_n 0, 1) := by decide +kernel
theorem d_TF_holdsOnTrial_41 : decode b_TF_holdsOnTrial 41 = .ok (.getfield 27, 3) := by decide +kernel
theorem d_TF_holdsOnTrial_44 : decode b_TF_holdsOnTrial 44 = .ok (.aload_n 0, 1) := by decide +kernel
theorem d_TF_holdsOnTrial_45 : decode b_TF_holdsOnTrial 45 = .ok (.getfield 43, 3) := by decide +kernel
theorem d_TF_holdsOnTrial_48 : decode b_TF_holdsOnTrial 48 = .ok (.bipush 10, 2) := by decide +kernel
theorem d_TF_holdsOnTrial_50 : decode b_TF_holdsOnTrial 50 = .ok (.iload_n 2, 1) := by decide +kernel
theorem d_TF_holdsOnTrial_51 : decode b_TF_holdsOnTrial 51 = .ok (.imul, 1) := by decide +kernel
theorem d_TF_holdsOnTrial_52 : decode b_TF_holdsOnTrial 52 = .ok (.iload_n 3, 1) := by decide +kernel
theorem d_TF_holdsOnTrial_53 : decode b_TF_holdsOnTrial 53 = .ok (.iadd, 1) := by decide +kernel
theorem d_TF_holdsOnTrial_54 : decode b_TF_holdsOnTrial 54 = .ok (.invokevirtual 170, 3) := by decide +kernel
theorem d_TF_holdsOnTrial_57 : decode b_TF_holdsOnTrial 57 = .ok (.bipush 10, 2) := by decide +kernel
theorem d_TF_holdsOnTrial_59 : decode b_TF_holdsOnTrial 59 = .ok (.iload_n 2, 1) := by decide +kernel
theorem d_TF_holdsOnTrial_60 : decode b_TF_holdsOnTrial 60 = .ok (.imul, 1) := by decide +kernel
theorem d_TF_holdsOnTrial_61 : decode b_TF_holdsOnTrial 61 = .ok (.iload_n 3, 1) := by decide +kernel
theorem d_TF_holdsOnTrial_62 : decode b_TF_holdsOnTrial 62 = .ok (.iadd, 1) := by decide +kernel
theorem d_TF_holdsOnTrial_63 : decode b_TF_holdsOnTrial 63 = .ok (.ifCond .le 7, 3) := by decide +kernel
theorem d_TF_holdsOnTrial_66 : decode b_TF_holdsOnTrial 66 = .ok (.iconst 1, 1) := by decide +kernel
theorem d_TF_holdsOnTrial_67 : decode b_TF_holdsOnTrial 67 = .ok (.goto 4, 3) := by decide +kernel
theorem d_TF_holdsOnTrial_70 : decode b_TF_holdsOnTrial 70 = .ok (.iconst 0, 1) := by decide +kernel
theorem d_TF_holdsOnTrial_71 : decode b_TF_holdsOnTrial 71 = .ok (.ireturn, 1) := by decide +kernel
theorem d_TF_holdsOnTrial_72 : decode b_TF_holdsOnTrial 72 = .ok (.iload_n 2, 1) := by decide +kernel
theorem d_TF_holdsOnTrial_73 : decode b_TF_holdsOnTrial 73 = .ok (.ifCond .ne 11, 3) := by decide +kernel
theorem d_TF_holdsOnTrial_76 : decode b_TF_holdsOnTrial 76 = .ok (.aload_n 0, 1) := by decide +kernel
theorem d_TF_holdsOnTrial_77 : decode b_TF_holdsOnTrial 77 = .ok (.iload_n 3, 1) := by decide +kernel
theorem d_TF_holdsOnTrial_78 : decode b_TF_holdsOnTrial 78 = .ok (.invokevirtual 153, 3) := by decide +kernel
theorem d_TF_holdsOnTrial_81 : decode b_TF_holdsOnTrial 81 = .ok (.ifCond .ne 5, 3) := by decide +kernel
theorem d_TF_holdsOnTrial_84 : decode b_TF_holdsOnTrial 84 = .ok (.iconst 0, 1) := by decide +kernel
theorem d_TF_holdsOnTrial_85 : decode b_TF_holdsOnTrial 85 = .ok (.ireturn, 1) := by decide +kernel
theorem d_TF_holdsOnTrial_86 : decode b_TF_holdsOnTrial 86 = .ok (.aload_n 0, 1) := by decide +kernel
theorem d_TF_holdsOnTrial_87 : decode b_TF_holdsOnTrial 87 = .ok (.getfield 43, 3) := by decide +kernel
theorem d_TF_holdsOnTrial_90 : decode b_TF_holdsOnTrial 90 = .ok (.iload_n 3, 1) := by decide +kernel
theorem d_TF_holdsOnTrial_91 : decode b_TF_holdsOnTrial 91 = .ok (.invokevirtual 180, 3) := by decide +kernel
theorem d_TF_holdsOnTrial_94 : decode b_TF_holdsOnTrial 94 = .ok (.iconst 1, 1) := by decide +kernel
theorem d_TF_holdsOnTrial_95 : decode b_TF_holdsOnTrial 95 = .ok (.ireturn, 1) := by decide +kernel
theorem d_TF_holdsOnTrial_96 : decode b_TF_holdsOnTrial 96 = .ok (.iload_n 2, 1) := by decide +kernel
theorem d_TF_holdsOnTrial_97 : decode b_TF_holdsOnTrial 97 = .ok (.ifCond .ne 11, 3) := by decide +kernel
theorem d_TF_holdsOnTrial_100 : decode b_TF_holdsOnTrial 100 = .ok (.aload_n 0, 1) := by decide +kernel
theorem d_TF_holdsOnTrial_101 : decode b_TF_holdsOnTrial 101 = .ok (.iload_n 3, 1) := by decide +kernel
theorem d_TF_holdsOnTrial_102 : decode b_TF_holdsOnTrial 102 = .ok (.invokevirtual 131, 3) := by decide +kernel
theorem d_TF_holdsOnTrial_105 : decode b_TF_holdsOnTrial 105 = .ok (.ifCond .ne 5, 3) := by decide +kernel
theorem d_TF_holdsOnTrial_108 : decode b_TF_holdsOnTrial 108 = .ok (.iconst 0, 1) := by decide +kernel
theorem d_TF_holdsOnTrial_109 : decode b_TF_holdsOnTrial 109 = .ok (.ireturn, 1) := by decide +kernel
theorem d_TF_holdsOnTrial_110 : decode b_TF_holdsOnTrial 110 = .ok (.aload_n 0, 1) := by decide +kernel
theorem d_TF_holdsOnTrial_111 : decode b_TF_holdsOnTrial 111 = .ok (.getfield 43, 3) := by decide +kernel
theorem d_TF_holdsOnTrial_114 : decode b_TF_holdsOnTrial 114 = .ok (.getfield 139, 3) := by decide +kernel
theorem d_TF_holdsOnTrial_117 : decode b_TF_holdsOnTrial 117 = .ok (.iload_n 3, 1) := by decide +kernel
theorem d_TF_holdsOnTrial_118 : decode b_TF_holdsOnTrial 118 = .ok (.aaload, 1) := by decide +kernel
theorem d_TF_holdsOnTrial_119 : decode b_TF_holdsOnTrial 119 = .ok (.invokevirtual 184, 3) := by decide +kernel
theorem d_TF_holdsOnTrial_122 : decode b_TF_holdsOnTrial 122 = .ok (.iconst 1, 1) := by decide +kernel
theorem d_TF_holdsOnTrial_123 : decode b_TF_holdsOnTrial 123 = .ok (.ireturn, 1) := by decide +kernel
theorem d_TF_holdsOnTrial_124 : decode b_TF_holdsOnTrial 124 = .ok (.aload_n 0, 1) := by decide +kernel
theorem d_TF_holdsOnTrial_125 : decode b_TF_holdsOnTrial 125 = .ok (.iload_n 2, 1) := by decide +kernel
theorem d_TF_holdsOnTrial_126 : decode b_TF_holdsOnTrial 126 = .ok (.invokevirtual 131, 3) := by decide +kernel
theorem d_TF_holdsOnTrial_129 : decode b_TF_holdsOnTrial 129 = .ok (.ifCond .eq 27, 3) := by decide +kernel
theorem d_TF_holdsOnTrial_132 : decode b_TF_holdsOnTrial 132 = .ok (.aload_n 0, 1) := by decide +kernel
theorem d_TF_holdsOnTrial_133 : decode b_TF_holdsOnTrial 133 = .ok (.iload_n 3, 1) := by decide +kernel
theorem d_TF_holdsOnTrial_134 : decode b_TF_holdsOnTrial 134 = .ok (.invokevirtual 131, 3) := by decide +kernel
theorem d_TF_holdsOnTrial_137 : decode b_TF_holdsOnTrial 137 = .ok (.ifCond .eq 19, 3) := by decide +kernel
theorem d_TF_holdsOnTrial_140 : decode b_TF_holdsOnTrial 140 = .ok (.aload_n 0, 1) := by decide +kernel
theorem d_TF_holdsOnTrial_141 : decode b_TF_holdsOnTrial 141 = .ok (.getfield 43, 3) := by decide +kernel
theorem d_TF_holdsOnTrial_144 : decode b_TF_holdsOnTrial 144 = .ok (.iload_n 2, 1) := by decide +kernel
theorem d_TF_holdsOnTrial_145 : decode b_TF_holdsOnTrial 145 = .ok (.invokevirtual 245, 3) := by decide +kernel
theorem d_TF_holdsOnTrial_148 : decode b_TF_holdsOnTrial 148 = .ok (.iload_n 3, 1) := by decide +kernel
theorem d_TF_holdsOnTrial_149 : decode b_TF_holdsOnTrial 149 = .ok (.if_icmp .ne 7, 3) := by decide +kernel
theorem d_TF_holdsOnTrial_152 : decode b_TF_holdsOnTrial 152 = .ok (.iconst 1, 1) := by decide +kernel
theorem d_TF_holdsOnTrial_153 : decode b_TF_holdsOnTrial 153 = .ok (.goto 4, 3) := by decide +kernel
theorem d_TF_holdsOnTrial_156 : decode b_TF_holdsOnTrial 156 = .ok (.iconst 0, 1) := by decide +kernel
theorem d_TF_holdsOnTrial_157 : decode b_TF_holdsOnTrial 157 = .ok (.ireturn, 1) := by decide +kernel
theorem d_TF_holdsOnTrial_158 : decode b_TF_holdsOnTrial 158 = .ok (.iload_n 2, 1) := by decide +kernel
theorem d_TF_holdsOnTrial_159 : decode b_TF_holdsOnTrial 159 = .ok (.ifCond .ne 30, 3) := by decide +kernel
theorem d_TF_holdsOnTrial_162 : decode b_TF_holdsOnTrial 162 = .ok (.aload_n 0, 1) := by decide +kernel
theorem d_TF_holdsOnTrial_163 : decode b_TF_holdsOnTrial 163 = .ok (.iload_n 3, 1) := by decide +kernel
theorem d_TF_holdsOnTrial_164 : decode b_TF_holdsOnTrial 164 = .ok (.invokevirtual 131, 3) := by decide +kernel
theorem d_TF_holdsOnTrial_167 : decode b_TF_holdsOnTrial 167 = .ok (.ifCond .eq 22, 3) := by decide +kernel
theorem d_TF_holdsOnTrial_170 : decode b_TF_holdsOnTrial 170 = .ok (.aload_n 0, 1) := by decide +kernel
theorem d_TF_holdsOnTrial_171 : decode b_TF_holdsOnTrial 171 = .ok (.getfield 27, 3) := by decide +kernel
theorem d_TF_holdsOnTrial_174 : decode b_TF_holdsOnTrial 174 = .ok (.aload_n 0, 1) := by decide +kernel
theorem d_TF_holdsOnTrial_175 : decode b_TF_holdsOnTrial 175 = .ok (.getfield 43, 3) := by decide +kernel
theorem d_TF_holdsOnTrial_178 : decode b_TF_holdsOnTrial 178 = .ok (.iload_n 3, 1) := by decide +kernel
theorem d_TF_holdsOnTrial_179 : decode b_TF_holdsOnTrial 179 = .ok (.invokevirtual 248, 3) := by decide +kernel
theorem d_TF_holdsOnTrial_182 : decode b_TF_holdsOnTrial 182 = .ok (.ifCond .eq 7, 3) := by decide +kernel
theorem d_TF_holdsOnTrial_185 : decode b_TF_holdsOnTrial 185 = .ok (.iconst 1, 1) := by decide +kernel
theorem d_TF_holdsOnTrial_186 : decode b_TF_holdsOnTrial 186 = .ok (.goto 4, 3) := by decide +kernel
theorem d_TF_holdsOnTrial_189 : decode b_TF_holdsOnTrial 189 = .ok (.iconst 0, 1) := by decide +kernel
theorem d_TF_holdsOnTrial_190 : decode b_TF_holdsOnTrial 190 = .ok (.ireturn, 1) := by decide +kernel
theorem d_TF_holdsOnTrial_191 : decode b_TF_holdsOnTrial 191 = .ok (.aload_n 0, 1) := by decide +kernel
theorem d_TF_holdsOnTrial_192 : decode b_TF_holdsOnTrial 192 = .ok (.iload_n 2, 1) := by decide +kernel
theorem d_TF_holdsOnTrial_193 : decode b_TF_holdsOnTrial 193 = .ok (.invokevirtual 131, 3) := by decide +kernel
theorem d_TF_holdsOnTrial_196 : decode b_TF_holdsOnTrial 196 = .ok (.ifCond .eq 38, 3) := by decide +kernel
theorem d_TF_holdsOnTrial_199 : decode b_TF_holdsOnTrial 199 = .ok (.aload_n 0, 1) := by decide +kernel
theorem d_TF_holdsOnTrial_200 : decode b_TF_holdsOnTrial 200 = .ok (.getfield 43, 3) := by decide +kernel
theorem d_TF_holdsOnTrial_203 : decode b_TF_holdsOnTrial 203 = .ok (.getfield 139, 3) := by decide +kernel
theorem d_TF_holdsOnTrial_206 : decode b_TF_holdsOnTrial 206 = .ok (.iload_n 2, 1) := by decide +kernel
theorem d_TF_holdsOnTrial_207 : decode b_TF_holdsOnTrial 207 = .ok (.aaload, 1) := by decide +kernel
theorem d_TF_holdsOnTrial_208 : decode b_TF_holdsOnTrial 208 = .ok (.getfield 143, 3) := by decide +kernel
theorem d_TF_holdsOnTrial_211 : decode b_TF_holdsOnTrial 211 = .ok (.ifCond .eq 23, 3) := by decide +kernel
theorem d_TF_holdsOnTrial_214 : decode b_TF_holdsOnTrial 214 = .ok (.aload_n 0, 1) := by decide +kernel
theorem d_TF_holdsOnTrial_215 : decode b_TF_holdsOnTrial 215 = .ok (.getfield 43, 3) := by decide +kernel
theorem d_TF_holdsOnTrial_218 : decode b_TF_holdsOnTrial 218 = .ok (.getfield 139, 3) := by decide +kernel
theorem d_TF_holdsOnTrial_221 : decode b_TF_holdsOnTrial 221 = .ok (.iload_n 2, 1) := by decide +kernel
theorem d_TF_holdsOnTrial_222 : decode b_TF_holdsOnTrial 222 = .ok (.aaload, 1) := by decide +kernel
theorem d_TF_holdsOnTrial_223 : decode b_TF_holdsOnTrial 223 = .ok (.getfield 252, 3) := by decide +kernel
theorem d_TF_holdsOnTrial_226 : decode b_TF_holdsOnTrial 226 = .ok (.iload_n 3, 1) := by decide +kernel
theorem d_TF_holdsOnTrial_227 : decode b_TF_holdsOnTrial 227 = .ok (.if_icmp .ne 7, 3) := by decide +kernel
theorem d_TF_holdsOnTrial_230 : decode b_TF_holdsOnTrial 230 = .ok (.iconst 1, 1) := by decide +kernel
theorem d_TF_holdsOnTrial_231 : decode b_TF_holdsOnTrial 231 = .ok (.goto 4, 3) := by decide +kernel
theorem d_TF_holdsOnTrial_234 : decode b_TF_holdsOnTrial 234 = .ok (.iconst 0, 1) := by decide +kernel
theorem d_TF_holdsOnTrial_235 : decode b_TF_holdsOnTrial 235 = .ok (.ireturn, 1) := by decide +kernel
theorem d_TF_holdsOnTrial_236 : decode b_TF_holdsOnTrial 236 = .ok (.iconst 0, 1) := by decide +kernel
theorem d_TF_holdsOnTrial_237 : decode b_TF_holdsOnTrial 237 = .ok (.ireturn, 1) := by decide +kernel
abbrev b_TF_judge : ByteArray := prog_1_method_17_code
abbrev y_TF_judge : MethodName := ⟨"TimeFlood", "judge", "(IJ)I"⟩
theorem m_TF_judge : MWV y_TF_judge b_TF_judge 6 (Option.some FieldType.int) 2 := ⟨wd_562, wd_563, wd_1, wd_564, by decide, by decide, by decide +kernel⟩
theorem d_TF_judge_0 : decode b_TF_judge 0 = .ok (.iload_n 1, 1) := by decide +kernel
theorem d_TF_judge_1 : decode b_TF_judge 1 = .ok (.iconst 1, 1) := by decide +kernel
theorem d_TF_judge_2 : decode b_TF_judge 2 = .ok (.if_icmp .lt 8, 3) := by decide +kernel
theorem d_TF_judge_5 : decode b_TF_judge 5 = .ok (.iload_n 1, 1) := by decide +kernel
theorem d_TF_judge_6 : decode b_TF_judge 6 = .ok (.iconst 4, 1) := by decide +kernel
theorem d_TF_judge_7 : decode b_TF_judge 7 = .ok (.if_icmp .le 6, 3) := by decide +kernel
theorem d_TF_judge_10 : decode b_TF_judge 10 = .ok (.bipush (-2), 2) := by decide +kernel
theorem d_TF_judge_12 : decode b_TF_judge 12 = .ok (.ireturn, 1) := by decide +kernel
theorem d_TF_judge_13 : decode b_TF_judge 13 = .ok (.lload_n 2, 1) := by decide +kernel
theorem d_TF_judge_14 : decode b_TF_judge 14 = .ok (.lconst 0, 1) := by decide +kernel
theorem d_TF_judge_15 : decode b_TF_judge 15 = .ok (.lcmp, 1) := by decide +kernel
theorem d_TF_judge_16 : decode b_TF_judge 16 = .ok (.ifCond .lt 13, 3) := by decide +kernel
theorem d_TF_judge_19 : decode b_TF_judge 19 = .ok (.lload_n 2, 1) := by decide +kernel
theorem d_TF_judge_20 : decode b_TF_judge 20 = .ok (.getstatic 202, 3) := by decide +kernel
theorem d_TF_judge_23 : decode b_TF_judge 23 = .ok (.iload_n 1, 1) := by decide +kernel
theorem d_TF_judge_24 : decode b_TF_judge 24 = .ok (.laload, 1) := by decide +kernel
theorem d_TF_judge_25 : decode b_TF_judge 25 = .ok (.lcmp, 1) := by decide +kernel
theorem d_TF_judge_26 : decode b_TF_judge 26 = .ok (.ifCond .lt 6, 3) := by decide +kernel
theorem d_TF_judge_29 : decode b_TF_judge 29 = .ok (.bipush (-2), 2) := by decide +kernel
theorem d_TF_judge_31 : decode b_TF_judge 31 = .ok (.ireturn, 1) := by decide +kernel
theorem d_TF_judge_32 : decode b_TF_judge 32 = .ok (.aload_n 0, 1) := by decide +kernel
theorem d_TF_judge_33 : decode b_TF_judge 33 = .ok (.getfield 43, 3) := by decide +kernel
theorem d_TF_judge_36 : decode b_TF_judge 36 = .ok (.aload_n 0, 1) := by decide +kernel
theorem d_TF_judge_37 : decode b_TF_judge 37 = .ok (.getfield 39, 3) := by decide +kernel
theorem d_TF_judge_40 : decode b_TF_judge 40 = .ok (.invokevirtual 197, 3) := by decide +kernel
theorem d_TF_judge_43 : decode b_TF_judge 43 = .ok (.iconst 0, 1) := by decide +kernel
theorem d_TF_judge_44 : decode b_TF_judge 44 = .ok (.istore 4, 2) := by decide +kernel
theorem d_TF_judge_46 : decode b_TF_judge 46 = .ok (.iload 4, 2) := by decide +kernel
theorem d_TF_judge_48 : decode b_TF_judge 48 = .ok (.iload_n 1, 1) := by decide +kernel
theorem d_TF_judge_49 : decode b_TF_judge 49 = .ok (.if_icmp .ge 56, 3) := by decide +kernel
theorem d_TF_judge_52 : decode b_TF_judge 52 = .ok (.lload_n 2, 1) := by decide +kernel
theorem d_TF_judge_53 : decode b_TF_judge 53 = .ok (.getstatic 202, 3) := by decide +kernel
theorem d_TF_judge_56 : decode b_TF_judge 56 = .ok (.iload_n 1, 1) := by decide +kernel
theorem d_TF_judge_57 : decode b_TF_judge 57 = .ok (.iconst 1, 1) := by decide +kernel
theorem d_TF_judge_58 : decode b_TF_judge 58 = .ok (.isub, 1) := by decide +kernel
theorem d_TF_judge_59 : decode b_TF_judge 59 = .ok (.iload 4, 2) := by decide +kernel
theorem d_TF_judge_61 : decode b_TF_judge 61 = .ok (.isub, 1) := by decide +kernel
theorem d_TF_judge_62 : decode b_TF_judge 62 = .ok (.laload, 1) := by decide +kernel
theorem d_TF_judge_63 : decode b_TF_judge 63 = .ok (.ldiv, 1) := by decide +kernel
theorem d_TF_judge_64 : decode b_TF_judge 64 = .ok (.ldc2_w 206, 3) := by decide +kernel
theorem d_TF_judge_67 : decode b_TF_judge 67 = .ok (.lrem, 1) := by decide +kernel
theorem d_TF_judge_68 : decode b_TF_judge 68 = .ok (.l2i, 1) := by decide +kernel
theorem d_TF_judge_69 : decode b_TF_judge 69 = .ok (.istore 5, 2) := by decide +kernel
theorem d_TF_judge_71 : decode b_TF_judge 71 = .ok (.aload_n 0, 1) := by decide +kernel
theorem d_TF_judge_72 : decode b_TF_judge 72 = .ok (.iload 5, 2) := by decide +kernel
theorem d_TF_judge_74 : decode b_TF_judge 74 = .ok (.bipush 100, 2) := by decide +kernel
theorem d_TF_judge_76 : decode b_TF_judge 76 = .ok (.idiv, 1) := by decide +kernel
theorem d_TF_judge_77 : decode b_TF_judge 77 = .ok (.iload 5, 2) := by decide +kernel
theorem d_TF_judge_79 : decode b_TF_judge 79 = .ok (.bipush 10, 2) := by decide +kernel
theorem d_TF_judge_81 : decode b_TF_judge 81 = .ok (.idiv, 1) := by decide +kernel
theorem d_TF_judge_82 : decode b_TF_judge 82 = .ok (.bipush 10, 2) := by decide +kernel
theorem d_TF_judge_84 : decode b_TF_judge 84 = .ok (.irem, 1) := by decide +kernel
theorem d_TF_judge_85 : decode b_TF_judge 85 = .ok (.iload 5, 2) := by decide +kernel
theorem d_TF_judge_87 : decode b_TF_judge 87 = .ok (.bipush 10, 2) := by decide +kernel
theorem d_TF_judge_89 : decode b_TF_judge 89 = .ok (.irem, 1) := by decide +kernel
theorem d_TF_judge_90 : decode b_TF_judge 90 = .ok (.invokevirtual 208, 3) := by decide +kernel
theorem d_TF_judge_93 : decode b_TF_judge 93 = .ok (.ifCond .ne 6, 3) := by decide +kernel
theorem d_TF_judge_96 : decode b_TF_judge 96 = .ok (.iload 4, 2) := by decide +kernel
theorem d_TF_judge_98 : decode b_TF_judge 98 = .ok (.ireturn, 1) := by decide +kernel
theorem d_TF_judge_99 : decode b_TF_judge 99 = .ok (.iinc 4 1, 3) := by decide +kernel
theorem d_TF_judge_102 : decode b_TF_judge 102 = .ok (.goto (-56), 3) := by decide +kernel
theorem d_TF_judge_105 : decode b_TF_judge 105 = .ok (.bipush (-9), 2) := by decide +kernel
theorem d_TF_judge_107 : decode b_TF_judge 107 = .ok (.ireturn, 1) := by decide +kernel
abbrev b_Sg_add : ByteArray := prog_7_method_2_code
abbrev y_Sg_add : MethodName := ⟨"TimeFlood$Sightings", "add", "(III)V"⟩
theorem m_Sg_add : MWV y_Sg_add b_Sg_add 4 none 3 := ⟨wd_579, wd_580, wd_8, wd_581, by decide, by decide, by decide +kernel⟩
theorem d_Sg_add_0 : decode b_Sg_add 0 = .ok (.aload_n 0, 1) := by decide +kernel
theorem d_Sg_add_1 : decode b_Sg_add 1 = .ok (.getfield 21, 3) := by decide +kernel
theorem d_Sg_add_4 : decode b_Sg_add 4 = .ok (.bipush 6, 2) := by decide +kernel
theorem d_Sg_add_6 : decode b_Sg_add 6 = .ok (.if_icmp .ge 43, 3) := by decide +kernel
theorem d_Sg_add_9 : decode b_Sg_add 9 = .ok (.aload_n 0, 1) := by decide +kernel
theorem d_Sg_add_10 : decode b_Sg_add 10 = .ok (.getfield 9, 3) := by decide +kernel
theorem d_Sg_add_13 : decode b_Sg_add 13 = .ok (.aload_n 0, 1) := by decide +kernel
theorem d_Sg_add_14 : decode b_Sg_add 14 = .ok (.getfield 21, 3) := by decide +kernel
theorem d_Sg_add_17 : decode b_Sg_add 17 = .ok (.iload_n 1, 1) := by decide +kernel
theorem d_Sg_add_18 : decode b_Sg_add 18 = .ok (.iastore, 1) := by decide +kernel
theorem d_Sg_add_19 : decode b_Sg_add 19 = .ok (.aload_n 0, 1) := by decide +kernel
theorem d_Sg_add_20 : decode b_Sg_add 20 = .ok (.getfield 15, 3) := by decide +kernel
theorem d_Sg_add_23 : decode b_Sg_add 23 = .ok (.aload_n 0, 1) := by decide +kernel
theorem d_Sg_add_24 : decode b_Sg_add 24 = .ok (.getfield 21, 3) := by decide +kernel
theorem d_Sg_add_27 : decode b_Sg_add 27 = .ok (.iload_n 2, 1) := by decide +kernel
theorem d_Sg_add_28 : decode b_Sg_add 28 = .ok (.iastore, 1) := by decide +kernel
theorem d_Sg_add_29 : decode b_Sg_add 29 = .ok (.aload_n 0, 1) := by decide +kernel
theorem d_Sg_add_30 : decode b_Sg_add 30 = .ok (.getfield 18, 3) := by decide +kernel
theorem d_Sg_add_33 : decode b_Sg_add 33 = .ok (.aload_n 0, 1) := by decide +kernel
theorem d_Sg_add_34 : decode b_Sg_add 34 = .ok (.getfield 21, 3) := by decide +kernel
theorem d_Sg_add_37 : decode b_Sg_add 37 = .ok (.iload_n 3, 1) := by decide +kernel
theorem d_Sg_add_38 : decode b_Sg_add 38 = .ok (.iastore, 1) := by decide +kernel
theorem d_Sg_add_39 : decode b_Sg_add 39 = .ok (.aload_n 0, 1) := by decide +kernel
theorem d_Sg_add_40 : decode b_Sg_add 40 = .ok (.dup, 1) := by decide +kernel
theorem d_Sg_add_41 : decode b_Sg_add 41 = .ok (.getfield 21, 3) := by decide +kernel
theorem d_Sg_add_44 : decode b_Sg_add 44 = .ok (.iconst 1, 1) := by decide +kernel
theorem d_Sg_add_45 : decode b_Sg_add 45 = .ok (.iadd, 1) := by decide +kernel
theorem d_Sg_add_46 : decode b_Sg_add 46 = .ok (.putfield 21, 3) := by decide +kernel
theorem d_Sg_add_49 : decode b_Sg_add 49 = .ok (.return_, 1) := by decide +kernel
abbrev b_TF_see : ByteArray := prog_1_method_18_code
abbrev y_TF_see : MethodName := ⟨"TimeFlood", "see", "(III)I"⟩
theorem m_TF_see : MWV y_TF_see b_TF_see 4 (Option.some FieldType.int) 3 := ⟨wd_575, wd_576, wd_1, wd_577, by decide, by decide, by decide +kernel⟩
theorem d_TF_see_0 : decode b_TF_see 0 = .ok (.aload_n 0, 1) := by decide +kernel
theorem d_TF_see_1 : decode b_TF_see 1 = .ok (.iload_n 1, 1) := by decide +kernel
theorem d_TF_see_2 : decode b_TF_see 2 = .ok (.invokevirtual 131, 3) := by decide +kernel
theorem d_TF_see_5 : decode b_TF_see 5 = .ok (.ifCond .ne 5, 3) := by decide +kernel
theorem d_TF_see_8 : decode b_TF_see 8 = .ok (.iconst (-1), 1) := by decide +kernel
theorem d_TF_see_9 : decode b_TF_see 9 = .ok (.ireturn, 1) := by decide +kernel
theorem d_TF_see_10 : decode b_TF_see 10 = .ok (.iload_n 2, 1) := by decide +kernel
theorem d_TF_see_11 : decode b_TF_see 11 = .ok (.ifCond .lt 23, 3) := by decide +kernel
theorem d_TF_see_14 : decode b_TF_see 14 = .ok (.iload_n 2, 1) := by decide +kernel
theorem d_TF_see_15 : decode b_TF_see 15 = .ok (.bipush 20, 2) := by decide +kernel
theorem d_TF_see_17 : decode b_TF_see 17 = .ok (.if_icmp .gt 17, 3) := by decide +kernel
theorem d_TF_see_20 : decode b_TF_see 20 = .ok (.iload_n 3, 1) := by decide +kernel
theorem d_TF_see_21 : decode b_TF_see 21 = .ok (.bipush (-9), 2) := by decide +kernel
theorem d_TF_see_23 : decode b_TF_see 23 = .ok (.if_icmp .eq 14, 3) := by decide +kernel
theorem d_TF_see_26 : decode b_TF_see 26 = .ok (.aload_n 0, 1) := by decide +kernel
theorem d_TF_see_27 : decode b_TF_see 27 = .ok (.iload_n 3, 1) := by decide +kernel
theorem d_TF_see_28 : decode b_TF_see 28 = .ok (.invokevirtual 131, 3) := by decide +kernel
theorem d_TF_see_31 : decode b_TF_see 31 = .ok (.ifCond .ne 6, 3) := by decide +kernel
theorem d_TF_see_34 : decode b_TF_see 34 = .ok (.bipush (-2), 2) := by decide +kernel
theorem d_TF_see_36 : decode b_TF_see 36 = .ok (.ireturn, 1) := by decide +kernel
theorem d_TF_see_37 : decode b_TF_see 37 = .ok (.aload_n 0, 1) := by decide +kernel
theorem d_TF_see_38 : decode b_TF_see 38 = .ok (.getfield 64, 3) := by decide +kernel
theorem d_TF_see_41 : decode b_TF_see 41 = .ok (.getfield 130, 3) := by decide +kernel
theorem d_TF_see_44 : decode b_TF_see 44 = .ok (.bipush 6, 2) := by decide +kernel
theorem d_TF_see_46 : decode b_TF_see 46 = .ok (.if_icmp .lt 6, 3) := by decide +kernel
theorem d_TF_see_49 : decode b_TF_see 49 = .ok (.bipush (-4), 2) := by decide +kernel
theorem d_TF_see_51 : decode b_TF_see 51 = .ok (.ireturn, 1) := by decide +kernel
theorem d_TF_see_52 : decode b_TF_see 52 = .ok (.aload_n 0, 1) := by decide +kernel
theorem d_TF_see_53 : decode b_TF_see 53 = .ok (.getfield 64, 3) := by decide +kernel
theorem d_TF_see_56 : decode b_TF_see 56 = .ok (.iload_n 1, 1) := by decide +kernel
theorem d_TF_see_57 : decode b_TF_see 57 = .ok (.iload_n 2, 1) := by decide +kernel
theorem d_TF_see_58 : decode b_TF_see 58 = .ok (.iload_n 3, 1) := by decide +kernel
theorem d_TF_see_59 : decode b_TF_see 59 = .ok (.invokevirtual 212, 3) := by decide +kernel
theorem d_TF_see_62 : decode b_TF_see 62 = .ok (.aload_n 0, 1) := by decide +kernel
theorem d_TF_see_63 : decode b_TF_see 63 = .ok (.getfield 64, 3) := by decide +kernel
theorem d_TF_see_66 : decode b_TF_see 66 = .ok (.getfield 130, 3) := by decide +kernel
theorem d_TF_see_69 : decode b_TF_see 69 = .ok (.ireturn, 1) := by decide +kernel
abbrev b_TF_unsee : ByteArray := prog_1_method_19_code
abbrev y_TF_unsee : MethodName := ⟨"TimeFlood", "unsee", "()I"⟩
theorem m_TF_unsee : MWV y_TF_unsee b_TF_unsee 2 (Option.some FieldType.int) 0 := ⟨wd_583, wd_584, wd_1, wd_585, by decide, by decide, by decide +kernel⟩
theorem d_TF_unsee_0 : decode b_TF_unsee 0 = .ok (.aload_n 0, 1) := by decide +kernel
theorem d_TF_unsee_1 : decode b_TF_unsee 1 = .ok (.getfield 64, 3) := by decide +kernel
theorem d_TF_unsee_4 : decode b_TF_unsee 4 = .ok (.getfield 130, 3) := by decide +kernel
theorem d_TF_unsee_7 : decode b_TF_unsee 7 = .ok (.istore_n 1, 1) := by decide +kernel
theorem d_TF_unsee_8 : decode b_TF_unsee 8 = .ok (.aload_n 0, 1) := by decide +kernel
theorem d_TF_unsee_9 : decode b_TF_unsee 9 = .ok (.getfield 64, 3) := by decide +kernel
theorem d_TF_unsee_12 : decode b_TF_unsee 12 = .ok (.iconst 0, 1) := by decide +kernel
theorem d_TF_unsee_13 : decode b_TF_unsee 13 = .ok (.putfield 130, 3) := by decide +kernel
theorem d_TF_unsee_16 : decode b_TF_unsee 16 = .ok (.iload_n 1, 1) := by decide +kernel
theorem d_TF_unsee_17 : decode b_TF_unsee 17 = .ok (.ireturn, 1) := by decide +kernel
abbrev b_Sg_contradict : ByteArray := prog_7_method_3_code
abbrev y_Sg_contradict : MethodName := ⟨"TimeFlood$Sightings", "contradict", "(LTimeFlood$State;II)Z"⟩
theorem m_Sg_contradict : MWV y_Sg_contradict b_Sg_contradict 6 (Option.some FieldType.boolean) 3 := ⟨wd_595, wd_596, wd_8, wd_597, by decide, by decide, by decide +kernel⟩
theorem d_Sg_contradict_0 : decode b_Sg_contradict 0 = .ok (.iconst 0, 1) := by decide +kernel
theorem d_Sg_contradict_1 : decode b_Sg_contradict 1 = .ok (.istore 4, 2) := by decide +kernel
theorem d_Sg_contradict_3 : decode b_Sg_contradict 3 = .ok (.iload 4, 2) := by decide +kernel
theorem d_Sg_contradict_5 : decode b_Sg_contradict 5 = .ok (.aload_n 0, 1) := by decide +kernel
theorem d_Sg_contradict_6 : decode b_Sg_contradict 6 = .ok (.getfield 21, 3) := by decide +kernel
theorem d_Sg_contradict_9 : decode b_Sg_contradict 9 = .ok (.if_icmp .ge 66, 3) := by decide +kernel
theorem d_Sg_contradict_12 : decode b_Sg_contradict 12 = .ok (.aload_n 0, 1) := by decide +kernel
theorem d_Sg_contradict_13 : decode b_Sg_contradict 13 = .ok (.getfield 15, 3) := by decide +kernel
theorem d_Sg_contradict_16 : decode b_Sg_contradict 16 = .ok (.iload 4, 2) := by decide +kernel
theorem d_Sg_contradict_18 : decode b_Sg_contradict 18 = .ok (.iaload, 1) := by decide +kernel
theorem d_Sg_contradict_19 : decode b_Sg_contradict 19 = .ok (.iload_n 2, 1) := by decide +kernel
theorem d_Sg_contradict_20 : decode b_Sg_contradict 20 = .ok (.if_icmp .ne 18, 3) := by decide +kernel
theorem d_Sg_contradict_23 : decode b_Sg_contradict 23 = .ok (.aload_n 0, 1) := by decide +kernel
theorem d_Sg_contradict_24 : decode b_Sg_contradict 24 = .ok (.getfield 9, 3) := by decide +kernel
theorem d_Sg_contradict_27 : decode b_Sg_contradict 27 = .ok (.iload 4, 2) := by decide +kernel
theorem d_Sg_contradict_29 : decode b_Sg_contradict 29 = .ok (.iaload, 1) := by decide +kernel
theorem d_Sg_contradict_30 : decode b_Sg_contradict 30 = .ok (.iload_n 3, 1) := by decide +kernel
theorem d_Sg_contradict_31 : decode b_Sg_contradict 31 = .ok (.if_icmp .ge 7, 3) := by decide +kernel
theorem d_Sg_contradict_34 : decode b_Sg_contradict 34 = .ok (.iconst 1, 1) := by decide +kernel
theorem d_Sg_contradict_35 : decode b_Sg_contradict 35 = .ok (.goto 4, 3) := by decide +kernel
theorem d_Sg_contradict_38 : decode b_Sg_contradict 38 = .ok (.iconst 0, 1) := by decide +kernel
theorem d_Sg_contradict_39 : decode b_Sg_contradict 39 = .ok (.istore 5, 2) := by decide +kernel
theorem d_Sg_contradict_41 : decode b_Sg_contradict 41 = .ok (.iload 5, 2) := by decide +kernel
theorem d_Sg_contradict_43 : decode b_Sg_contradict 43 = .ok (.ifCond .eq 26, 3) := by decide +kernel
theorem d_Sg_contradict_46 : decode b_Sg_contradict 46 = .ok (.aload_n 1, 1) := by decide +kernel
theorem d_Sg_contradict_47 : decode b_Sg_contradict 47 = .ok (.aload_n 0, 1) := by decide +kernel
theorem d_Sg_contradict_48 : decode b_Sg_contradict 48 = .ok (.getfield 9, 3) := by decide +kernel
theorem d_Sg_contradict_51 : decode b_Sg_contradict 51 = .ok (.iload 4, 2) := by decide +kernel
theorem d_Sg_contradict_53 : decode b_Sg_contradict 53 = .ok (.iaload, 1) := by decide +kernel
theorem d_Sg_contradict_54 : decode b_Sg_contradict 54 = .ok (.invokevirtual 25, 3) := by decide +kernel
theorem d_Sg_contradict_57 : decode b_Sg_contradict 57 = .ok (.aload_n 0, 1) := by decide +kernel
theorem d_Sg_contradict_58 : decode b_Sg_contradict 58 = .ok (.getfield 18, 3) := by decide +kernel
theorem d_Sg_contradict_61 : decode b_Sg_contradict 61 = .ok (.iload 4, 2) := by decide +kernel
theorem d_Sg_contradict_63 : decode b_Sg_contradict 63 = .ok (.iaload, 1) := by decide +kernel
theorem d_Sg_contradict_64 : decode b_Sg_contradict 64 = .ok (.if_icmp .eq 5, 3) := by decide +kernel
theorem d_Sg_contradict_67 : decode b_Sg_contradict 67 = .ok (.iconst 1, 1) := by decide +kernel
theorem d_Sg_contradict_68 : decode b_Sg_contradict 68 = .ok (.ireturn, 1) := by decide +kernel
theorem d_Sg_contradict_69 : decode b_Sg_contradict 69 = .ok (.iinc 4 1, 3) := by decide +kernel
theorem d_Sg_contradict_72 : decode b_Sg_contradict 72 = .ok (.goto (-69), 3) := by decide +kernel
theorem d_Sg_contradict_75 : decode b_Sg_contradict 75 = .ok (.iconst 0, 1) := by decide +kernel
theorem d_Sg_contradict_76 : decode b_Sg_contradict 76 = .ok (.ireturn, 1) := by decide +kernel
abbrev b_TF_failureExplains : ByteArray := prog_1_method_30_code
abbrev y_TF_failureExplains : MethodName := ⟨"TimeFlood", "failureExplains", "(I)Z"⟩
theorem m_TF_failureExplains : MWV y_TF_failureExplains b_TF_failureExplains 3 (Option.some FieldType.boolean) 1 := ⟨wd_592, wp_9, wd_1, wd_593, by decide, by decide, by decide +kernel⟩
theorem d_TF_failureExplains_0 : decode b_TF_failureExplains 0 = .ok (.aload_n 0, 1) := by decide +kernel
theorem d_TF_failureExplains_1 : decode b_TF_failureExplains 1 = .ok (.getfield 43, 3) := by decide +kernel
theorem d_TF_failureExplains_4 : decode b_TF_failureExplains 4 = .ok (.aload_n 0, 1) := by decide +kernel
theorem d_TF_failureExplains_5 : decode b_TF_failureExplains 5 = .ok (.getfield 39, 3) := by decide +kernel
theorem d_TF_failureExplains_8 : decode b_TF_failureExplains 8 = .ok (.invokevirtual 197, 3) := by decide +kernel
theorem d_TF_failureExplains_11 : decode b_TF_failureExplains 11 = .ok (.aload_n 0, 1) := by decide +kernel
theorem d_TF_failureExplains_12 : decode b_TF_failureExplains 12 = .ok (.getfield 43, 3) := by decide +kernel
theorem d_TF_failureExplains_15 : decode b_TF_failureExplains 15 = .ok (.getfield 139, 3) := by decide +kernel
theorem d_TF_failureExplains_18 : decode b_TF_failureExplains 18 = .ok (.iload_n 1, 1) := by decide +kernel
theorem d_TF_failureExplains_19 : decode b_TF_failureExplains 19 = .ok (.aaload, 1) := by decide +kernel
theorem d_TF_failureExplains_20 : decode b_TF_failureExplains 20 = .ok (.iconst 0, 1) := by decide +kernel
theorem d_TF_failureExplains_21 : decode b_TF_failureExplains 21 = .ok (.putfield 143, 3) := by decide +kernel
theorem d_TF_failureExplains_24 : decode b_TF_failureExplains 24 = .ok (.iconst 0, 1) := by decide +kernel
theorem d_TF_failureExplains_25 : decode b_TF_failureExplains 25 = .ok (.istore_n 2, 1) := by decide +kernel
theorem d_TF_failureExplains_26 : decode b_TF_failureExplains 26 = .ok (.iload_n 2, 1) := by decide +kernel
theorem d_TF_failureExplains_27 : decode b_TF_failureExplains 27 = .ok (.bipush 20, 2) := by decide +kernel
theorem d_TF_failureExplains_29 : decode b_TF_failureExplains 29 = .ok (.if_icmp .gt 44, 3) := by decide +kernel
theorem d_TF_failureExplains_32 : decode b_TF_failureExplains 32 = .ok (.aload_n 0, 1) := by decide +kernel
theorem d_TF_failureExplains_33 : decode b_TF_failureExplains 33 = .ok (.getfield 64, 3) := by decide +kernel
theorem d_TF_failureExplains_36 : decode b_TF_failureExplains 36 = .ok (.aload_n 0, 1) := by decide +kernel
theorem d_TF_failureExplains_37 : decode b_TF_failureExplains 37 = .ok (.getfield 43, 3) := by decide +kernel
theorem d_TF_failureExplains_40 : decode b_TF_failureExplains 40 = .ok (.iload_n 2, 1) := by decide +kernel
theorem d_TF_failureExplains_41 : decode b_TF_failureExplains 41 = .ok (.aload_n 0, 1) := by decide +kernel
theorem d_TF_failureExplains_42 : decode b_TF_failureExplains 42 = .ok (.getfield 35, 3) := by decide +kernel
theorem d_TF_failureExplains_45 : decode b_TF_failureExplains 45 = .ok (.getfield 91, 3) := by decide +kernel
theorem d_TF_failureExplains_48 : decode b_TF_failureExplains 48 = .ok (.invokevirtual 255, 3) := by decide +kernel
theorem d_TF_failureExplains_51 : decode b_TF_failureExplains 51 = .ok (.ifCond .eq 5, 3) := by decide +kernel
theorem d_TF_failureExplains_54 : decode b_TF_failureExplains 54 = .ok (.iconst 0, 1) := by decide +kernel
theorem d_TF_failureExplains_55 : decode b_TF_failureExplains 55 = .ok (.ireturn, 1) := by decide +kernel
theorem d_TF_failureExplains_56 : decode b_TF_failureExplains 56 = .ok (.aload_n 0, 1) := by decide +kernel
theorem d_TF_failureExplains_57 : decode b_TF_failureExplains 57 = .ok (.getfield 27, 3) := by decide +kernel
theorem d_TF_failureExplains_60 : decode b_TF_failureExplains 60 = .ok (.aload_n 0, 1) := by decide +kernel
theorem d_TF_failureExplains_61 : decode b_TF_failureExplains 61 = .ok (.getfield 43, 3) := by decide +kernel
theorem d_TF_failureExplains_64 : decode b_TF_failureExplains 64 = .ok (.invokevirtual 199, 3) := by decide +kernel
theorem d_TF_failureExplains_67 : decode b_TF_failureExplains 67 = .ok (.iinc 2 1, 3) := by decide +kernel
theorem d_TF_failureExplains_70 : decode b_TF_failureExplains 70 = .ok (.goto (-44), 3) := by decide +kernel
theorem d_TF_failureExplains_73 : decode b_TF_failureExplains 73 = .ok (.iconst 1, 1) := by decide +kernel
theorem d_TF_failureExplains_74 : decode b_TF_failureExplains 74 = .ok (.ireturn, 1) := by decide +kernel
abbrev b_TF_which : ByteArray := prog_1_method_20_code
abbrev y_TF_which : MethodName := ⟨"TimeFlood", "which", "()I"⟩
theorem m_TF_which : MWV y_TF_which b_TF_which 3 (Option.some FieldType.int) 0 := ⟨wd_587, wd_588, wd_1, wd_589, by decide, by decide, by decide +kernel⟩
theorem d_TF_which_0 : decode b_TF_which 0 = .ok (.iconst 0, 1) := by decide +kernel
theorem d_TF_which_1 : decode b_TF_which 1 = .ok (.istore_n 1, 1) := by decide +kernel
theorem d_TF_which_2 : decode b_TF_which 2 = .ok (.iconst 0, 1) := by decide +kernel
theorem d_TF_which_3 : decode b_TF_which 3 = .ok (.istore_n 2, 1) := by decide +kernel
theorem d_TF_which_4 : decode b_TF_which 4 = .ok (.iload_n 2, 1) := by decide +kernel
theorem d_TF_which_5 : decode b_TF_which 5 = .ok (.aload_n 0, 1) := by decide +kernel
theorem d_TF_which_6 : decode b_TF_which 6 = .ok (.getfield 35, 3) := by decide +kernel
theorem d_TF_which_9 : decode b_TF_which 9 = .ok (.getfield 91, 3) := by decide +kernel
theorem d_TF_which_12 : decode b_TF_which 12 = .ok (.if_icmp .ge 38, 3) := by decide +kernel
theorem d_TF_which_15 : decode b_TF_which 15 = .ok (.aload_n 0, 1) := by decide +kernel
theorem d_TF_which_16 : decode b_TF_which 16 = .ok (.getfield 39, 3) := by decide +kernel
theorem d_TF_which_19 : decode b_TF_which 19 = .ok (.getfield 139, 3) := by decide +kernel
theorem d_TF_which_22 : decode b_TF_which 22 = .ok (.iload_n 2, 1) := by decide +kernel
theorem d_TF_which_23 : decode b_TF_which 23 = .ok (.aaload, 1) := by decide +kernel
theorem d_TF_which_24 : decode b_TF_which 24 = .ok (.getfield 143, 3) := by decide +kernel
theorem d_TF_which_27 : decode b_TF_which 27 = .ok (.ifCond .eq 17, 3) := by decide +kernel
theorem d_TF_which_30 : decode b_TF_which 30 = .ok (.aload_n 0, 1) := by decide +kernel
theorem d_TF_which_31 : decode b_TF_which 31 = .ok (.iload_n 2, 1) := by decide +kernel
theorem d_TF_which_32 : decode b_TF_which 32 = .ok (.invokevirtual 216, 3) := by decide +kernel
theorem d_TF_which_35 : decode b_TF_which 35 = .ok (.ifCond .eq 9, 3) := by decide +kernel
theorem d_TF_which_38 : decode b_TF_which 38 = .ok (.iload_n 1, 1) := by decide +kernel
theorem d_TF_which_39 : decode b_TF_which 39 = .ok (.iconst 1, 1) := by decide +kernel
theorem d_TF_which_40 : decode b_TF_which 40 = .ok (.iload_n 2, 1) := by decide +kernel
theorem d_TF_which_41 : decode b_TF_which 41 = .ok (.ishl, 1) := by decide +kernel
theorem d_TF_which_42 : decode b_TF_which 42 = .ok (.ior, 1) := by decide +kernel
theorem d_TF_which_43 : decode b_TF_which 43 = .ok (.istore_n 1, 1) := by decide +kernel
theorem d_TF_which_44 : decode b_TF_which 44 = .ok (.iinc 2 1, 3) := by decide +kernel
theorem d_TF_which_47 : decode b_TF_which 47 = .ok (.goto (-43), 3) := by decide +kernel
theorem d_TF_which_50 : decode b_TF_which 50 = .ok (.iload_n 1, 1) := by decide +kernel
theorem d_TF_which_51 : decode b_TF_which 51 = .ok (.ireturn, 1) := by decide +kernel
abbrev b_St_switchOffAllBut : ByteArray := prog_8_method_6_code
abbrev y_St_switchOffAllBut : MethodName := ⟨"TimeFlood$State", "switchOffAllBut", "(I)V"⟩
theorem m_St_switchOffAllBut : MWV y_St_switchOffAllBut b_St_switchOffAllBut 3 none 1 := ⟨wd_610, wd_611, wd_5, wd_612, by decide, by decide, by decide +kernel⟩
theorem d_St_switchOffAllBut_0 : decode b_St_switchOffAllBut 0 = .ok (.iconst 0, 1) := by decide +kernel
theorem d_St_switchOffAllBut_1 : decode b_St_switchOffAllBut 1 = .ok (.istore_n 2, 1) := by decide +kernel
theorem d_St_switchOffAllBut_2 : decode b_St_switchOffAllBut 2 = .ok (.iload_n 2, 1) := by decide +kernel
theorem d_St_switchOffAllBut_3 : decode b_St_switchOffAllBut 3 = .ok (.iconst 5, 1) := by decide +kernel
theorem d_St_switchOffAllBut_4 : decode b_St_switchOffAllBut 4 = .ok (.if_icmp .ge 27, 3) := by decide +kernel
theorem d_St_switchOffAllBut_7 : decode b_St_switchOffAllBut 7 = .ok (.iload_n 1, 1) := by decide +kernel
theorem d_St_switchOffAllBut_8 : decode b_St_switchOffAllBut 8 = .ok (.iload_n 2, 1) := by decide +kernel
theorem d_St_switchOffAllBut_9 : decode b_St_switchOffAllBut 9 = .ok (.ishr, 1) := by decide +kernel
theorem d_St_switchOffAllBut_10 : decode b_St_switchOffAllBut 10 = .ok (.iconst 1, 1) := by decide +kernel
theorem d_St_switchOffAllBut_11 : decode b_St_switchOffAllBut 11 = .ok (.iand, 1) := by decide +kernel
theorem d_St_switchOffAllBut_12 : decode b_St_switchOffAllBut 12 = .ok (.ifCond .ne 13, 3) := by decide +kernel
theorem d_St_switchOffAllBut_15 : decode b_St_switchOffAllBut 15 = .ok (.aload_n 0, 1) := by decide +kernel
theorem d_St_switchOffAllBut_16 : decode b_St_switchOffAllBut 16 = .ok (.getfield 20, 3) := by decide +kernel
theorem d_St_switchOffAllBut_19 : decode b_St_switchOffAllBut 19 = .ok (.iload_n 2, 1) := by decide +kernel
theorem d_St_switchOffAllBut_20 : decode b_St_switchOffAllBut 20 = .ok (.aaload, 1) := by decide +kernel
theorem d_St_switchOffAllBut_21 : decode b_St_switchOffAllBut 21 = .ok (.iconst 0, 1) := by decide +kernel
theorem d_St_switchOffAllBut_22 : decode b_St_switchOffAllBut 22 = .ok (.putfield 37, 3) := by decide +kernel
theorem d_St_switchOffAllBut_25 : decode b_St_switchOffAllBut 25 = .ok (.iinc 2 1, 3) := by decide +kernel
theorem d_St_switchOffAllBut_28 : decode b_St_switchOffAllBut 28 = .ok (.goto (-26), 3) := by decide +kernel
theorem d_St_switchOffAllBut_31 : decode b_St_switchOffAllBut 31 = .ok (.return_, 1) := by decide +kernel
abbrev b_TF_worth : ByteArray := prog_1_method_31_code
abbrev y_TF_worth : MethodName := ⟨"TimeFlood", "worth", "(I)I"⟩
theorem m_TF_worth : MWV y_TF_worth b_TF_worth 2 (Option.some FieldType.int) 1 := ⟨wd_607, wp_10, wd_1, wd_608, by decide, by decide, by decide +kernel⟩
theorem d_TF_worth_0 : decode b_TF_worth 0 = .ok (.aload_n 0, 1) := by decide +kernel
theorem d_TF_worth_1 : decode b_TF_worth 1 = .ok (.getfield 43, 3) := by decide +kernel
theorem d_TF_worth_4 : decode b_TF_worth 4 = .ok (.aload_n 0, 1) := by decide +kernel
theorem d_TF_worth_5 : decode b_TF_worth 5 = .ok (.getfield 39, 3) := by decide +kernel
theorem d_TF_worth_8 : decode b_TF_worth 8 = .ok (.invokevirtual 197, 3) := by decide +kernel
theorem d_TF_worth_11 : decode b_TF_worth 11 = .ok (.aload_n 0, 1) := by decide +kernel
theorem d_TF_worth_12 : decode b_TF_worth 12 = .ok (.getfield 43, 3) := by decide +kernel
theorem d_TF_worth_15 : decode b_TF_worth 15 = .ok (.iload_n 1, 1) := by decide +kernel
theorem d_TF_worth_16 : decode b_TF_worth 16 = .ok (.invokevirtual 259, 3) := by decide +kernel
theorem d_TF_worth_19 : decode b_TF_worth 19 = .ok (.aload_n 0, 1) := by decide +kernel
theorem d_TF_worth_20 : decode b_TF_worth 20 = .ok (.getfield 27, 3) := by decide +kernel
theorem d_TF_worth_23 : decode b_TF_worth 23 = .ok (.aload_n 0, 1) := by decide +kernel
theorem d_TF_worth_24 : decode b_TF_worth 24 = .ok (.getfield 43, 3) := by decide +kernel
theorem d_TF_worth_27 : decode b_TF_worth 27 = .ok (.bipush 12, 2) := by decide +kernel
theorem d_TF_worth_29 : decode b_TF_worth 29 = .ok (.invokevirtual 170, 3) := by decide +kernel
theorem d_TF_worth_32 : decode b_TF_worth 32 = .ok (.aload_n 0, 1) := by decide +kernel
theorem d_TF_worth_33 : decode b_TF_worth 33 = .ok (.getfield 27, 3) := by decide +kernel
theorem d_TF_worth_36 : decode b_TF_worth 36 = .ok (.aload_n 0, 1) := by decide +kernel
theorem d_TF_worth_37 : decode b_TF_worth 37 = .ok (.getfield 43, 3) := by decide +kernel
theorem d_TF_worth_40 : decode b_TF_worth 40 = .ok (.invokevirtual 116, 3) := by decide +kernel
theorem d_TF_worth_43 : decode b_TF_worth 43 = .ok (.invokestatic 174, 3) := by decide +kernel
theorem d_TF_worth_46 : decode b_TF_worth 46 = .ok (.ireturn, 1) := by decide +kernel
abbrev b_Mt_abs : ByteArray := prog_12_method_61_code
abbrev y_Mt_abs : MethodName := ⟨"java/lang/Math", "abs", "(J)J"⟩
theorem m_Mt_abs : MWS y_Mt_abs b_Mt_abs 2 (Option.some FieldType.long) 1 := ⟨wd_617, wd_10, wd_618, by decide, by decide, by decide +kernel⟩
theorem d_Mt_abs_0 : decode b_Mt_abs 0 = .ok (.lload_n 0, 1) := by decide +kernel
theorem d_Mt_abs_1 : decode b_Mt_abs 1 = .ok (.lconst 0, 1) := by decide +kernel
theorem d_Mt_abs_2 : decode b_Mt_abs 2 = .ok (.lcmp, 1) := by decide +kernel
theorem d_Mt_abs_3 : decode b_Mt_abs 3 = .ok (.ifCond .ge 8, 3) := by decide +kernel
theorem d_Mt_abs_6 : decode b_Mt_abs 6 = .ok (.lload_n 0, 1) := by decide +kernel
theorem d_Mt_abs_7 : decode b_Mt_abs 7 = .ok (.lneg, 1) := by decide +kernel
theorem d_Mt_abs_8 : decode b_Mt_abs 8 = .ok (.goto 4, 3) := by decide +kernel
theorem d_Mt_abs_11 : decode b_Mt_abs 11 = .ok (.lload_n 0, 1) := by decide +kernel
theorem d_Mt_abs_12 : decode b_Mt_abs 12 = .ok (.lreturn, 1) := by decide +kernel
abbrev b_TF_commonDivisor : ByteArray := prog_1_method_36_code
abbrev y_TF_commonDivisor : MethodName := ⟨"TimeFlood", "commonDivisor", "(JJ)J"⟩
theorem m_TF_commonDivisor : MWS y_TF_commonDivisor b_TF_commonDivisor 11 (Option.some FieldType.long) 2 := ⟨wd_620, wd_1, wd_621, by decide, by decide, by decide +kernel⟩
theorem d_TF_commonDivisor_0 : decode b_TF_commonDivisor 0 = .ok (.lload_n 0, 1) := by decide +kernel
theorem d_TF_commonDivisor_1 : decode b_TF_commonDivisor 1 = .ok (.lstore 4, 2) := by decide +kernel
theorem d_TF_commonDivisor_3 : decode b_TF_commonDivisor 3 = .ok (.lload_n 2, 1) := by decide +kernel
theorem d_TF_commonDivisor_4 : decode b_TF_commonDivisor 4 = .ok (.lstore 6, 2) := by decide +kernel
theorem d_TF_commonDivisor_6 : decode b_TF_commonDivisor 6 = .ok (.iconst 0, 1) := by decide +kernel
theorem d_TF_commonDivisor_7 : decode b_TF_commonDivisor 7 = .ok (.istore 8, 2) := by decide +kernel
theorem d_TF_commonDivisor_9 : decode b_TF_commonDivisor 9 = .ok (.iload 8, 2) := by decide +kernel
theorem d_TF_commonDivisor_11 : decode b_TF_commonDivisor 11 = .ok (.sipush 1000, 3) := by decide +kernel
theorem d_TF_commonDivisor_14 : decode b_TF_commonDivisor 14 = .ok (.if_icmp .ge 31, 3) := by decide +kernel
theorem d_TF_commonDivisor_17 : decode b_TF_commonDivisor 17 = .ok (.lload 6, 2) := by decide +kernel
theorem d_TF_commonDivisor_19 : decode b_TF_commonDivisor 19 = .ok (.lconst 0, 1) := by decide +kernel
theorem d_TF_commonDivisor_20 : decode b_TF_commonDivisor 20 = .ok (.lcmp, 1) := by decide +kernel
theorem d_TF_commonDivisor_21 : decode b_TF_commonDivisor 21 = .ok (.ifCond .eq 24, 3) := by decide +kernel
theorem d_TF_commonDivisor_24 : decode b_TF_commonDivisor 24 = .ok (.lload 4, 2) := by decide +kernel
theorem d_TF_commonDivisor_26 : decode b_TF_commonDivisor 26 = .ok (.lload 6, 2) := by decide +kernel
theorem d_TF_commonDivisor_28 : decode b_TF_commonDivisor 28 = .ok (.lrem, 1) := by decide +kernel
theorem d_TF_commonDivisor_29 : decode b_TF_commonDivisor 29 = .ok (.lstore 9, 2) := by decide +kernel
theorem d_TF_commonDivisor_31 : decode b_TF_commonDivisor 31 = .ok (.lload 6, 2) := by decide +kernel
theorem d_TF_commonDivisor_33 : decode b_TF_commonDivisor 33 = .ok (.lstore 4, 2) := by decide +kernel
theorem d_TF_commonDivisor_35 : decode b_TF_commonDivisor 35 = .ok (.lload 9, 2) := by decide +kernel
theorem d_TF_commonDivisor_37 : decode b_TF_commonDivisor 37 = .ok (.lstore 6, 2) := by decide +kernel
theorem d_TF_commonDivisor_39 : decode b_TF_commonDivisor 39 = .ok (.iinc 8 1, 3) := by decide +kernel
theorem d_TF_commonDivisor_42 : decode b_TF_commonDivisor 42 = .ok (.goto (-33), 3) := by decide +kernel
theorem d_TF_commonDivisor_45 : decode b_TF_commonDivisor 45 = .ok (.lload 4, 2) := by decide +kernel
theorem d_TF_commonDivisor_47 : decode b_TF_commonDivisor 47 = .ok (.lreturn, 1) := by decide +kernel
abbrev b_TF_partOfFraction : ByteArray := prog_1_method_35_code
abbrev y_TF_partOfFraction : MethodName := ⟨"TimeFlood", "partOfFraction", "(JJZ)I"⟩
theorem m_TF_partOfFraction : MWS y_TF_partOfFraction b_TF_partOfFraction 9 (Option.some FieldType.int) 3 := ⟨wd_614, wd_1, wd_615, by decide, by decide, by decide +kernel⟩
theorem d_TF_partOfFraction_0 : decode b_TF_partOfFraction 0 = .ok (.iload 4, 2) := by decide +kernel
theorem d_TF_partOfFraction_2 : decode b_TF_partOfFraction 2 = .ok (.ifCond .eq 7, 3) := by decide +kernel
theorem d_TF_partOfFraction_5 : decode b_TF_partOfFraction 5 = .ok (.lload_n 0, 1) := by decide +kernel
theorem d_TF_partOfFraction_6 : decode b_TF_partOfFraction 6 = .ok (.goto 4, 3) := by decide +kernel
theorem d_TF_partOfFraction_9 : decode b_TF_partOfFraction 9 = .ok (.lload_n 2, 1) := by decide +kernel
theorem d_TF_partOfFraction_10 : decode b_TF_partOfFraction 10 = .ok (.lstore 5, 2) := by decide +kernel
theorem d_TF_partOfFraction_12 : decode b_TF_partOfFraction 12 = .ok (.lload_n 0, 1) := by decide +kernel
theorem d_TF_partOfFraction_13 : decode b_TF_partOfFraction 13 = .ok (.invokestatic 264, 3) := by decide +kernel
theorem d_TF_partOfFraction_16 : decode b_TF_partOfFraction 16 = .ok (.lload_n 2, 1) := by decide +kernel
theorem d_TF_partOfFraction_17 : decode b_TF_partOfFraction 17 = .ok (.invokestatic 270, 3) := by decide +kernel
theorem d_TF_partOfFraction_20 : decode b_TF_partOfFraction 20 = .ok (.lstore 7, 2) := by decide +kernel
theorem d_TF_partOfFraction_22 : decode b_TF_partOfFraction 22 = .ok (.lload 7, 2) := by decide +kernel
theorem d_TF_partOfFraction_24 : decode b_TF_partOfFraction 24 = .ok (.lconst 1, 1) := by decide +kernel
theorem d_TF_partOfFraction_25 : decode b_TF_partOfFraction 25 = .ok (.lcmp, 1) := by decide +kernel
theorem d_TF_partOfFraction_26 : decode b_TF_partOfFraction 26 = .ok (.ifCond .le 11, 3) := by decide +kernel
theorem d_TF_partOfFraction_29 : decode b_TF_partOfFraction 29 = .ok (.lload 5, 2) := by decide +kernel
theorem d_TF_partOfFraction_31 : decode b_TF_partOfFraction 31 = .ok (.lload 7, 2) := by decide +kernel
theorem d_TF_partOfFraction_33 : decode b_TF_partOfFraction 33 = .ok (.ldiv, 1) := by decide +kernel
theorem d_TF_partOfFraction_34 : decode b_TF_partOfFraction 34 = .ok (.goto 5, 3) := by decide +kernel
theorem d_TF_partOfFraction_37 : decode b_TF_partOfFraction 37 = .ok (.lload 5, 2) := by decide +kernel
theorem d_TF_partOfFraction_39 : decode b_TF_partOfFraction 39 = .ok (.l2i, 1) := by decide +kernel
theorem d_TF_partOfFraction_40 : decode b_TF_partOfFraction 40 = .ok (.ireturn, 1) := by decide +kernel
abbrev b_TF_share : ByteArray := prog_1_method_21_code
abbrev y_TF_share : MethodName := ⟨"TimeFlood", "share", "(IZ)I"⟩
theorem m_TF_share : MWV y_TF_share b_TF_share 10 (Option.some FieldType.int) 2 := ⟨wd_600, wd_601, wd_1, wd_602, by decide, by decide, by decide +kernel⟩
theorem d_TF_share_0 : decode b_TF_share 0 = .ok (.aload_n 0, 1) := by decide +kernel
theorem d_TF_share_1 : decode b_TF_share 1 = .ok (.iload_n 1, 1) := by decide +kernel
theorem d_TF_share_2 : decode b_TF_share 2 = .ok (.invokevirtual 131, 3) := by decide +kernel
theorem d_TF_share_5 : decode b_TF_share 5 = .ok (.ifCond .ne 5, 3) := by decide +kernel
theorem d_TF_share_8 : decode b_TF_share 8 = .ok (.iconst (-1), 1) := by decide +kernel
theorem d_TF_share_9 : decode b_TF_share 9 = .ok (.ireturn, 1) := by decide +kernel
theorem d_TF_share_10 : decode b_TF_share 10 = .ok (.aload_n 0, 1) := by decide +kernel
theorem d_TF_share_11 : decode b_TF_share 11 = .ok (.getfield 39, 3) := by decide +kernel
theorem d_TF_share_14 : decode b_TF_share 14 = .ok (.getfield 139, 3) := by decide +kernel
theorem d_TF_share_17 : decode b_TF_share 17 = .ok (.iload_n 1, 1) := by decide +kernel
theorem d_TF_share_18 : decode b_TF_share 18 = .ok (.aaload, 1) := by decide +kernel
theorem d_TF_share_19 : decode b_TF_share 19 = .ok (.getfield 143, 3) := by decide +kernel
theorem d_TF_share_22 : decode b_TF_share 22 = .ok (.ifCond .ne 6, 3) := by decide +kernel
theorem d_TF_share_25 : decode b_TF_share 25 = .ok (.bipush (-3), 2) := by decide +kernel
theorem d_TF_share_27 : decode b_TF_share 27 = .ok (.ireturn, 1) := by decide +kernel
theorem d_TF_share_28 : decode b_TF_share 28 = .ok (.aload_n 0, 1) := by decide +kernel
theorem d_TF_share_29 : decode b_TF_share 29 = .ok (.getfield 39, 3) := by decide +kernel
theorem d_TF_share_32 : decode b_TF_share 32 = .ok (.invokevirtual 109, 3) := by decide +kernel
theorem d_TF_share_35 : decode b_TF_share 35 = .ok (.iconst 1, 1) := by decide +kernel
theorem d_TF_share_36 : decode b_TF_share 36 = .ok (.iload_n 1, 1) := by decide +kernel
theorem d_TF_share_37 : decode b_TF_share 37 = .ok (.ishl, 1) := by decide +kernel
theorem d_TF_share_38 : decode b_TF_share 38 = .ok (.iconst (-1), 1) := by decide +kernel
theorem d_TF_share_39 : decode b_TF_share 39 = .ok (.ixor, 1) := by decide +kernel
theorem d_TF_share_40 : decode b_TF_share 40 = .ok (.iand, 1) := by decide +kernel
theorem d_TF_share_41 : decode b_TF_share 41 = .ok (.istore_n 3, 1) := by decide +kernel
theorem d_TF_share_42 : decode b_TF_share 42 = .ok (.iload_n 3, 1) := by decide +kernel
theorem d_TF_share_43 : decode b_TF_share 43 = .ok (.invokestatic 174, 3) := by decide +kernel
theorem d_TF_share_46 : decode b_TF_share 46 = .ok (.istore 4, 2) := by decide +kernel
theorem d_TF_share_48 : decode b_TF_share 48 = .ok (.lconst 0, 1) := by decide +kernel
theorem d_TF_share_49 : decode b_TF_share 49 = .ok (.lstore 5, 2) := by decide +kernel
theorem d_TF_share_51 : decode b_TF_share 51 = .ok (.iconst 0, 1) := by decide +kernel
theorem d_TF_share_52 : decode b_TF_share 52 = .ok (.istore 7, 2) := by decide +kernel
theorem d_TF_share_54 : decode b_TF_share 54 = .ok (.iload 7, 2) := by decide +kernel
theorem d_TF_share_56 : decode b_TF_share 56 = .ok (.bipush 32, 2) := by decide +kernel
theorem d_TF_share_58 : decode b_TF_share 58 = .ok (.if_icmp .ge 69, 3) := by decide +kernel
theorem d_TF_share_61 : decode b_TF_share 61 = .ok (.iload 7, 2) := by decide +kernel
theorem d_TF_share_63 : decode b_TF_share 63 = .ok (.iload_n 3, 1) := by decide +kernel
theorem d_TF_share_64 : decode b_TF_share 64 = .ok (.iconst (-1), 1) := by decide +kernel
theorem d_TF_share_65 : decode b_TF_share 65 = .ok (.ixor, 1) := by decide +kernel
theorem d_TF_share_66 : decode b_TF_share 66 = .ok (.iand, 1) := by decide +kernel
theorem d_TF_share_67 : decode b_TF_share 67 = .ok (.ifCond .ne 54, 3) := by decide +kernel
theorem d_TF_share_70 : decode b_TF_share 70 = .ok (.iload 7, 2) := by decide +kernel
theorem d_TF_share_72 : decode b_TF_share 72 = .ok (.invokestatic 174, 3) := by decide +kernel
theorem d_TF_share_75 : decode b_TF_share 75 = .ok (.istore 8, 2) := by decide +kernel
theorem d_TF_share_77 : decode b_TF_share 77 = .ok (.getstatic 219, 3) := by decide +kernel
theorem d_TF_share_80 : decode b_TF_share 80 = .ok (.iload 8, 2) := by decide +kernel
theorem d_TF_share_82 : decode b_TF_share 82 = .ok (.iaload, 1) := by decide +kernel
theorem d_TF_share_83 : decode b_TF_share 83 = .ok (.getstatic 219, 3) := by decide +kernel
theorem d_TF_share_86 : decode b_TF_share 86 = .ok (.iload 4, 2) := by decide +kernel
theorem d_TF_share_88 : decode b_TF_share 88 = .ok (.iload 8, 2) := by decide +kernel
theorem d_TF_share_90 : decode b_TF_share 90 = .ok (.isub, 1) := by decide +kernel
theorem d_TF_share_91 : decode b_TF_share 91 = .ok (.iaload, 1) := by decide +kernel
theorem d_TF_share_92 : decode b_TF_share 92 = .ok (.imul, 1) := by decide +kernel
theorem d_TF_share_93 : decode b_TF_share 93 = .ok (.istore 9, 2) := by decide +kernel
theorem d_TF_share_95 : decode b_TF_share 95 = .ok (.lload 5, 2) := by decide +kernel
theorem d_TF_share_97 : decode b_TF_share 97 = .ok (.iload 9, 2) := by decide +kernel
theorem d_TF_share_99 : decode b_TF_share 99 = .ok (.aload_n 0, 1) := by decide +kernel
theorem d_TF_share_100 : decode b_TF_share 100 = .ok (.iload 7, 2) := by decide +kernel
theorem d_TF_share_102 : decode b_TF_share 102 = .ok (.iconst 1, 1) := by decide +kernel
theorem d_TF_share_103 : decode b_TF_share 103 = .ok (.iload_n 1, 1) := by decide +kernel
theorem d_TF_share_104 : decode b_TF_share 104 = .ok (.ishl, 1) := by decide +kernel
theorem d_TF_share_105 : decode b_TF_share 105 = .ok (.ior, 1) := by decide +kernel
theorem d_TF_share_106 : decode b_TF_share 106 = .ok (.invokevirtual 222, 3) := by decide +kernel
theorem d_TF_share_109 : decode b_TF_share 109 = .ok (.aload_n 0, 1) := by decide +kernel
theorem d_TF_share_110 : decode b_TF_share 110 = .ok (.iload 7, 2) := by decide +kernel
theorem d_TF_share_112 : decode b_TF_share 112 = .ok (.invokevirtual 222, 3) := by decide +kernel
theorem d_TF_share_115 : decode b_TF_share 115 = .ok (.isub, 1) := by decide +kernel
theorem d_TF_share_116 : decode b_TF_share 116 = .ok (.imul, 1) := by decide +kernel
theorem d_TF_share_117 : decode b_TF_share 117 = .ok (.i2l, 1) := by decide +kernel
theorem d_TF_share_118 : decode b_TF_share 118 = .ok (.ladd, 1) := by decide +kernel
theorem d_TF_share_119 : decode b_TF_share 119 = .ok (.lstore 5, 2) := by decide +kernel
theorem d_TF_share_121 : decode b_TF_share 121 = .ok (.iinc 7 1, 3) := by decide +kernel
theorem d_TF_share_124 : decode b_TF_share 124 = .ok (.goto (-70), 3) := by decide +kernel
theorem d_TF_share_127 : decode b_TF_share 127 = .ok (.lload 5, 2) := by decide +kernel
theorem d_TF_share_129 : decode b_TF_share 129 = .ok (.getstatic 219, 3) := by decide +kernel
theorem d_TF_share_132 : decode b_TF_share 132 = .ok (.iload 4, 2) := by decide +kernel
theorem d_TF_share_134 : decode b_TF_share 134 = .ok (.iconst 1, 1) := by decide +kernel
theorem d_TF_share_135 : decode b_TF_share 135 = .ok (.iadd, 1) := by decide +kernel
theorem d_TF_share_136 : decode b_TF_share 136 = .ok (.iaload, 1) := by decide +kernel
theorem d_TF_share_137 : decode b_TF_share 137 = .ok (.i2l, 1) := by decide +kernel
theorem d_TF_share_138 : decode b_TF_share 138 = .ok (.iload_n 2, 1) := by decide +kernel
theorem d_TF_share_139 : decode b_TF_share 139 = .ok (.invokestatic 225, 3) := by decide +kernel
theorem d_TF_share_142 : decode b_TF_share 142 = .ok (.ireturn, 1) := by decide +kernel
abbrev b_TF_weightOfFailing : ByteArray := prog_1_method_33_code
abbrev y_TF_weightOfFailing : MethodName := ⟨"TimeFlood", "weightOfFailing", "(II)J"⟩
theorem m_TF_weightOfFailing : MWV y_TF_weightOfFailing b_TF_weightOfFailing 6 (Option.some FieldType.long) 2 := ⟨wd_628, wp_11, wd_1, wd_629, by decide, by decide, by decide +kernel⟩
theorem d_TF_weightOfFailing_0 : decode b_TF_weightOfFailing 0 = .ok (.lconst 1, 1) := by decide +kernel
theorem d_TF_weightOfFailing_1 : decode b_TF_weightOfFailing 1 = .ok (.lstore_n 3, 1) := by decide +kernel
theorem d_TF_weightOfFailing_2 : decode b_TF_weightOfFailing 2 = .ok (.iconst 0, 1) := by decide +kernel
theorem d_TF_weightOfFailing_3 : decode b_TF_weightOfFailing 3 = .ok (.istore 5, 2) := by decide +kernel
theorem d_TF_weightOfFailing_5 : decode b_TF_weightOfFailing 5 = .ok (.iload 5, 2) := by decide +kernel
theorem d_TF_weightOfFailing_7 : decode b_TF_weightOfFailing 7 = .ok (.aload_n 0, 1) := by decide +kernel
theorem d_TF_weightOfFailing_8 : decode b_TF_weightOfFailing 8 = .ok (.getfield 35, 3) := by decide +kernel
theorem d_TF_weightOfFailing_11 : decode b_TF_weightOfFailing 11 = .ok (.getfield 94, 3) := by decide +kernel
theorem d_TF_weightOfFailing_14 : decode b_TF_weightOfFailing 14 = .ok (.if_icmp .ge 44, 3) := by decide +kernel
theorem d_TF_weightOfFailing_17 : decode b_TF_weightOfFailing 17 = .ok (.aload_n 0, 1) := by decide +kernel
theorem d_TF_weightOfFailing_18 : decode b_TF_weightOfFailing 18 = .ok (.getfield 39, 3) := by decide +kernel
theorem d_TF_weightOfFailing_21 : decode b_TF_weightOfFailing 21 = .ok (.iload 5, 2) := by decide +kernel
theorem d_TF_weightOfFailing_23 : decode b_TF_weightOfFailing 23 = .ok (.invokevirtual 163, 3) := by decide +kernel
theorem d_TF_weightOfFailing_26 : decode b_TF_weightOfFailing 26 = .ok (.ifCond .ne 26, 3) := by decide +kernel
theorem d_TF_weightOfFailing_29 : decode b_TF_weightOfFailing 29 = .ok (.lload_n 3, 1) := by decide +kernel
theorem d_TF_weightOfFailing_30 : decode b_TF_weightOfFailing 30 = .ok (.iload_n 1, 1) := by decide +kernel
theorem d_TF_weightOfFailing_31 : decode b_TF_weightOfFailing 31 = .ok (.iload 5, 2) := by decide +kernel
theorem d_TF_weightOfFailing_33 : decode b_TF_weightOfFailing 33 = .ok (.ishr, 1) := by decide +kernel
theorem d_TF_weightOfFailing_34 : decode b_TF_weightOfFailing 34 = .ok (.iconst 1, 1) := by decide +kernel
theorem d_TF_weightOfFailing_35 : decode b_TF_weightOfFailing 35 = .ok (.iand, 1) := by decide +kernel
theorem d_TF_weightOfFailing_36 : decode b_TF_weightOfFailing 36 = .ok (.iconst 1, 1) := by decide +kernel
theorem d_TF_weightOfFailing_37 : decode b_TF_weightOfFailing 37 = .ok (.if_icmp .ne 8, 3) := by decide +kernel
theorem d_TF_weightOfFailing_40 : decode b_TF_weightOfFailing 40 = .ok (.iload_n 2, 1) := by decide +kernel
theorem d_TF_weightOfFailing_41 : decode b_TF_weightOfFailing 41 = .ok (.i2l, 1) := by decide +kernel
theorem d_TF_weightOfFailing_42 : decode b_TF_weightOfFailing 42 = .ok (.goto 8, 3) := by decide +kernel
theorem d_TF_weightOfFailing_45 : decode b_TF_weightOfFailing 45 = .ok (.bipush 10, 2) := by decide +kernel
theorem d_TF_weightOfFailing_47 : decode b_TF_weightOfFailing 47 = .ok (.iload_n 2, 1) := by decide +kernel
theorem d_TF_weightOfFailing_48 : decode b_TF_weightOfFailing 48 = .ok (.isub, 1) := by decide +kernel
theorem d_TF_weightOfFailing_49 : decode b_TF_weightOfFailing 49 = .ok (.i2l, 1) := by decide +kernel
theorem d_TF_weightOfFailing_50 : decode b_TF_weightOfFailing 50 = .ok (.lmul, 1) := by decide +kernel
theorem d_TF_weightOfFailing_51 : decode b_TF_weightOfFailing 51 = .ok (.lstore_n 3, 1) := by decide +kernel
theorem d_TF_weightOfFailing_52 : decode b_TF_weightOfFailing 52 = .ok (.iinc 5 1, 3) := by decide +kernel
theorem d_TF_weightOfFailing_55 : decode b_TF_weightOfFailing 55 = .ok (.goto (-50), 3) := by decide +kernel
theorem d_TF_weightOfFailing_58 : decode b_TF_weightOfFailing 58 = .ok (.lload_n 3, 1) := by decide +kernel
theorem d_TF_weightOfFailing_59 : decode b_TF_weightOfFailing 59 = .ok (.lreturn, 1) := by decide +kernel
abbrev b_TF_unitesWithout : ByteArray := prog_1_method_32_code
abbrev y_TF_unitesWithout : MethodName := ⟨"TimeFlood", "unitesWithout", "(II)Z"⟩
theorem m_TF_unitesWithout : MWV y_TF_unitesWithout b_TF_unitesWithout 3 (Option.some FieldType.boolean) 2 := ⟨wd_632, wp_12, wd_1, wd_633, by decide, by decide, by decide +kernel⟩
theorem d_TF_unitesWithout_0 : decode b_TF_unitesWithout 0 = .ok (.aload_n 0, 1) := by decide +kernel
theorem d_TF_unitesWithout_1 : decode b_TF_unitesWithout 1 = .ok (.getfield 43, 3) := by decide +kernel
theorem d_TF_unitesWithout_4 : decode b_TF_unitesWithout 4 = .ok (.aload_n 0, 1) := by decide +kernel
theorem d_TF_unitesWithout_5 : decode b_TF_unitesWithout 5 = .ok (.getfield 39, 3) := by decide +kernel
theorem d_TF_unitesWithout_8 : decode b_TF_unitesWithout 8 = .ok (.invokevirtual 197, 3) := by decide +kernel
theorem d_TF_unitesWithout_11 : decode b_TF_unitesWithout 11 = .ok (.aload_n 0, 1) := by decide +kernel
theorem d_TF_unitesWithout_12 : decode b_TF_unitesWithout 12 = .ok (.getfield 43, 3) := by decide +kernel
theorem d_TF_unitesWithout_15 : decode b_TF_unitesWithout 15 = .ok (.dup, 1) := by decide +kernel
theorem d_TF_unitesWithout_16 : decode b_TF_unitesWithout 16 = .ok (.getfield 120, 3) := by decide +kernel
theorem d_TF_unitesWithout_19 : decode b_TF_unitesWithout 19 = .ok (.iload_n 1, 1) := by decide +kernel
theorem d_TF_unitesWithout_20 : decode b_TF_unitesWithout 20 = .ok (.ior, 1) := by decide +kernel
theorem d_TF_unitesWithout_21 : decode b_TF_unitesWithout 21 = .ok (.putfield 120, 3) := by decide +kernel
theorem d_TF_unitesWithout_24 : decode b_TF_unitesWithout 24 = .ok (.aload_n 0, 1) := by decide +kernel
theorem d_TF_unitesWithout_25 : decode b_TF_unitesWithout 25 = .ok (.getfield 27, 3) := by decide +kernel
theorem d_TF_unitesWithout_28 : decode b_TF_unitesWithout 28 = .ok (.aload_n 0, 1) := by decide +kernel
theorem d_TF_unitesWithout_29 : decode b_TF_unitesWithout 29 = .ok (.getfield 43, 3) := by decide +kernel
theorem d_TF_unitesWithout_32 : decode b_TF_unitesWithout 32 = .ok (.iload_n 2, 1) := by decide +kernel
theorem d_TF_unitesWithout_33 : decode b_TF_unitesWithout 33 = .ok (.invokevirtual 170, 3) := by decide +kernel
theorem d_TF_unitesWithout_36 : decode b_TF_unitesWithout 36 = .ok (.aload_n 0, 1) := by decide +kernel
theorem d_TF_unitesWithout_37 : decode b_TF_unitesWithout 37 = .ok (.getfield 43, 3) := by decide +kernel
theorem d_TF_unitesWithout_40 : decode b_TF_unitesWithout 40 = .ok (.invokevirtual 123, 3) := by decide +kernel
theorem d_TF_unitesWithout_43 : decode b_TF_unitesWithout 43 = .ok (.ireturn, 1) := by decide +kernel
abbrev b_TF_tenToTheUpLinks : ByteArray := prog_1_method_34_code
abbrev y_TF_tenToTheUpLinks : MethodName := ⟨"TimeFlood", "tenToTheUpLinks", "()J"⟩
theorem m_TF_tenToTheUpLinks : MWV y_TF_tenToTheUpLinks b_TF_tenToTheUpLinks 4 (Option.some FieldType.long) 0 := ⟨wd_636, wp_13, wd_1, wd_637, by decide, by decide, by decide +kernel⟩
theorem d_TF_tenToTheUpLinks_0 : decode b_TF_tenToTheUpLinks 0 = .ok (.lconst 1, 1) := by decide +kernel
theorem d_TF_tenToTheUpLinks_1 : decode b_TF_tenToTheUpLinks 1 = .ok (.lstore_n 1, 1) := by decide +kernel
theorem d_TF_tenToTheUpLinks_2 : decode b_TF_tenToTheUpLinks 2 = .ok (.iconst 0, 1) := by decide +kernel
theorem d_TF_tenToTheUpLinks_3 : decode b_TF_tenToTheUpLinks 3 = .ok (.istore_n 3, 1) := by decide +kernel
theorem d_TF_tenToTheUpLinks_4 : decode b_TF_tenToTheUpLinks 4 = .ok (.iload_n 3, 1) := by decide +kernel
theorem d_TF_tenToTheUpLinks_5 : decode b_TF_tenToTheUpLinks 5 = .ok (.aload_n 0, 1) := by decide +kernel
theorem d_TF_tenToTheUpLinks_6 : decode b_TF_tenToTheUpLinks 6 = .ok (.getfield 35, 3) := by decide +kernel
theorem d_TF_tenToTheUpLinks_9 : decode b_TF_tenToTheUpLinks 9 = .ok (.getfield 94, 3) := by decide +kernel
theorem d_TF_tenToTheUpLinks_12 : decode b_TF_tenToTheUpLinks 12 = .ok (.if_icmp .ge 26, 3) := by decide +kernel
theorem d_TF_tenToTheUpLinks_15 : decode b_TF_tenToTheUpLinks 15 = .ok (.aload_n 0, 1) := by decide +kernel
theorem d_TF_tenToTheUpLinks_16 : decode b_TF_tenToTheUpLinks 16 = .ok (.getfield 39, 3) := by decide +kernel
theorem d_TF_tenToTheUpLinks_19 : decode b_TF_tenToTheUpLinks 19 = .ok (.iload_n 3, 1) := by decide +kernel
theorem d_TF_tenToTheUpLinks_20 : decode b_TF_tenToTheUpLinks 20 = .ok (.invokevirtual 163, 3) := by decide +kernel
theorem d_TF_tenToTheUpLinks_23 : decode b_TF_tenToTheUpLinks 23 = .ok (.ifCond .ne 9, 3) := by decide +kernel
theorem d_TF_tenToTheUpLinks_26 : decode b_TF_tenToTheUpLinks 26 = .ok (.lload_n 1, 1) := by decide +kernel
theorem d_TF_tenToTheUpLinks_27 : decode b_TF_tenToTheUpLinks 27 = .ok (.ldc2_w 262, 3) := by decide +kernel
theorem d_TF_tenToTheUpLinks_30 : decode b_TF_tenToTheUpLinks 30 = .ok (.lmul, 1) := by decide +kernel
theorem d_TF_tenToTheUpLinks_31 : decode b_TF_tenToTheUpLinks 31 = .ok (.lstore_n 1, 1) := by decide +kernel
theorem d_TF_tenToTheUpLinks_32 : decode b_TF_tenToTheUpLinks 32 = .ok (.iinc 3 1, 3) := by decide +kernel
theorem d_TF_tenToTheUpLinks_35 : decode b_TF_tenToTheUpLinks 35 = .ok (.goto (-31), 3) := by decide +kernel
theorem d_TF_tenToTheUpLinks_38 : decode b_TF_tenToTheUpLinks 38 = .ok (.lload_n 1, 1) := by decide +kernel
theorem d_TF_tenToTheUpLinks_39 : decode b_TF_tenToTheUpLinks 39 = .ok (.lreturn, 1) := by decide +kernel
abbrev b_TF_chance : ByteArray := prog_1_method_22_code
abbrev y_TF_chance : MethodName := ⟨"TimeFlood", "chance", "(IIZ)I"⟩
theorem m_TF_chance : MWV y_TF_chance b_TF_chance 9 (Option.some FieldType.int) 3 := ⟨wd_623, wd_624, wd_1, wd_625, by decide, by decide, by decide +kernel⟩
theorem d_TF_chance_0 : decode b_TF_chance 0 = .ok (.iload_n 1, 1) := by decide +kernel
theorem d_TF_chance_1 : decode b_TF_chance 1 = .ok (.ifCond .lt 19, 3) := by decide +kernel
theorem d_TF_chance_4 : decode b_TF_chance 4 = .ok (.iload_n 1, 1) := by decide +kernel
theorem d_TF_chance_5 : decode b_TF_chance 5 = .ok (.bipush 20, 2) := by decide +kernel
theorem d_TF_chance_7 : decode b_TF_chance 7 = .ok (.if_icmp .gt 13, 3) := by decide +kernel
theorem d_TF_chance_10 : decode b_TF_chance 10 = .ok (.iload_n 2, 1) := by decide +kernel
theorem d_TF_chance_11 : decode b_TF_chance 11 = .ok (.ifCond .lt 9, 3) := by decide +kernel
theorem d_TF_chance_14 : decode b_TF_chance 14 = .ok (.iload_n 2, 1) := by decide +kernel
theorem d_TF_chance_15 : decode b_TF_chance 15 = .ok (.bipush 10, 2) := by decide +kernel
theorem d_TF_chance_17 : decode b_TF_chance 17 = .ok (.if_icmp .le 6, 3) := by decide +kernel
theorem d_TF_chance_20 : decode b_TF_chance 20 = .ok (.bipush (-2), 2) := by decide +kernel
theorem d_TF_chance_22 : decode b_TF_chance 22 = .ok (.ireturn, 1) := by decide +kernel
theorem d_TF_chance_23 : decode b_TF_chance 23 = .ok (.lconst 0, 1) := by decide +kernel
theorem d_TF_chance_24 : decode b_TF_chance 24 = .ok (.lstore 4, 2) := by decide +kernel
theorem d_TF_chance_26 : decode b_TF_chance 26 = .ok (.iconst 0, 1) := by decide +kernel
theorem d_TF_chance_27 : decode b_TF_chance 27 = .ok (.istore 6, 2) := by decide +kernel
theorem d_TF_chance_29 : decode b_TF_chance 29 = .ok (.iload 6, 2) := by decide +kernel
theorem d_TF_chance_31 : decode b_TF_chance 31 = .ok (.iconst 1, 1) := by decide +kernel
theorem d_TF_chance_32 : decode b_TF_chance 32 = .ok (.aload_n 0, 1) := by decide +kernel
theorem d_TF_chance_33 : decode b_TF_chance 33 = .ok (.getfield 35, 3) := by decide +kernel
theorem d_TF_chance_36 : decode b_TF_chance 36 = .ok (.getfield 94, 3) := by decide +kernel
theorem d_TF_chance_39 : decode b_TF_chance 39 = .ok (.ishl, 1) := by decide +kernel
theorem d_TF_chance_40 : decode b_TF_chance 40 = .ok (.if_icmp .ge 55, 3) := by decide +kernel
theorem d_TF_chance_43 : decode b_TF_chance 43 = .ok (.iload 6, 2) := by decide +kernel
theorem d_TF_chance_45 : decode b_TF_chance 45 = .ok (.aload_n 0, 1) := by decide +kernel
theorem d_TF_chance_46 : decode b_TF_chance 46 = .ok (.getfield 39, 3) := by decide +kernel
theorem d_TF_chance_49 : decode b_TF_chance 49 = .ok (.getfield 120, 3) := by decide +kernel
theorem d_TF_chance_52 : decode b_TF_chance 52 = .ok (.iand, 1) := by decide +kernel
theorem d_TF_chance_53 : decode b_TF_chance 53 = .ok (.ifCond .ne 36, 3) := by decide +kernel
theorem d_TF_chance_56 : decode b_TF_chance 56 = .ok (.aload_n 0, 1) := by decide +kernel
theorem d_TF_chance_57 : decode b_TF_chance 57 = .ok (.iload 6, 2) := by decide +kernel
theorem d_TF_chance_59 : decode b_TF_chance 59 = .ok (.iload_n 2, 1) := by decide +kernel
theorem d_TF_chance_60 : decode b_TF_chance 60 = .ok (.invokevirtual 229, 3) := by decide +kernel
theorem d_TF_chance_63 : decode b_TF_chance 63 = .ok (.lstore 7, 2) := by decide +kernel
theorem d_TF_chance_65 : decode b_TF_chance 65 = .ok (.lload 7, 2) := by decide +kernel
theorem d_TF_chance_67 : decode b_TF_chance 67 = .ok (.lconst 0, 1) := by decide +kernel
theorem d_TF_chance_68 : decode b_TF_chance 68 = .ok (.lcmp, 1) := by decide +kernel
theorem d_TF_chance_69 : decode b_TF_chance 69 = .ok (.ifCond .eq 20, 3) := by decide +kernel
theorem d_TF_chance_72 : decode b_TF_chance 72 = .ok (.aload_n 0, 1) := by decide +kernel
theorem d_TF_chance_73 : decode b_TF_chance 73 = .ok (.iload 6, 2) := by decide +kernel
theorem d_TF_chance_75 : decode b_TF_chance 75 = .ok (.iload_n 1, 1) := by decide +kernel
theorem d_TF_chance_76 : decode b_TF_chance 76 = .ok (.invokevirtual 233, 3) := by decide +kernel
theorem d_TF_chance_79 : decode b_TF_chance 79 = .ok (.ifCond .eq 10, 3) := by decide +kernel
theorem d_TF_chance_82 : decode b_TF_chance 82 = .ok (.lload 4, 2) := by decide +kernel
theorem d_TF_chance_84 : decode b_TF_chance 84 = .ok (.lload 7, 2) := by decide +kernel
theorem d_TF_chance_86 : decode b_TF_chance 86 = .ok (.ladd, 1) := by decide +kernel
theorem d_TF_chance_87 : decode b_TF_chance 87 = .ok (.lstore 4, 2) := by decide +kernel
theorem d_TF_chance_89 : decode b_TF_chance 89 = .ok (.iinc 6 1, 3) := by decide +kernel
theorem d_TF_chance_92 : decode b_TF_chance 92 = .ok (.goto (-63), 3) := by decide +kernel
theorem d_TF_chance_95 : decode b_TF_chance 95 = .ok (.lload 4, 2) := by decide +kernel
theorem d_TF_chance_97 : decode b_TF_chance 97 = .ok (.aload_n 0, 1) := by decide +kernel
theorem d_TF_chance_98 : decode b_TF_chance 98 = .ok (.invokevirtual 237, 3) := by decide +kernel
theorem d_TF_chance_101 : decode b_TF_chance 101 = .ok (.iload_n 3, 1) := by decide +kernel
theorem d_TF_chance_102 : decode b_TF_chance 102 = .ok (.invokestatic 225, 3) := by decide +kernel
theorem d_TF_chance_105 : decode b_TF_chance 105 = .ok (.ireturn, 1) := by decide +kernel
abbrev b_TF_seed : ByteArray := prog_1_method_23_code
abbrev y_TF_seed : MethodName := ⟨"TimeFlood", "seed", "(J)J"⟩
theorem m_TF_seed : MWV y_TF_seed b_TF_seed 5 (Option.some FieldType.long) 1 := ⟨wd_640, wd_641, wd_1, wd_642, by decide, by decide, by decide +kernel⟩
theorem d_TF_seed_0 : decode b_TF_seed 0 = .ok (.aload_n 0, 1) := by decide +kernel
theorem d_TF_seed_1 : decode b_TF_seed 1 = .ok (.getfield 68, 3) := by decide +kernel
theorem d_TF_seed_4 : decode b_TF_seed 4 = .ok (.lstore_n 3, 1) := by decide +kernel
theorem d_TF_seed_5 : decode b_TF_seed 5 = .ok (.aload_n 0, 1) := by decide +kernel
theorem d_TF_seed_6 : decode b_TF_seed 6 = .ok (.lload_n 1, 1) := by decide +kernel
theorem d_TF_seed_7 : decode b_TF_seed 7 = .ok (.putfield 68, 3) := by decide +kernel
theorem d_TF_seed_10 : decode b_TF_seed 10 = .ok (.lload_n 3, 1) := by decide +kernel
theorem d_TF_seed_11 : decode b_TF_seed 11 = .ok (.lreturn, 1) := by decide +kernel
abbrev b_TF_drawn : ByteArray := prog_1_method_24_code
abbrev y_TF_drawn : MethodName := ⟨"TimeFlood", "drawn", "(I)I"⟩
theorem m_TF_drawn : MWV y_TF_drawn b_TF_drawn 5 (Option.some FieldType.int) 1 := ⟨wd_644, wd_645, wd_1, wd_646, by decide, by decide, by decide +kernel⟩
theorem d_TF_drawn_0 : decode b_TF_drawn 0 = .ok (.iload_n 1, 1) := by decide +kernel
theorem d_TF_drawn_1 : decode b_TF_drawn 1 = .ok (.iconst 1, 1) := by decide +kernel
theorem d_TF_drawn_2 : decode b_TF_drawn 2 = .ok (.if_icmp .lt 9, 3) := by decide +kernel
theorem d_TF_drawn_5 : decode b_TF_drawn 5 = .ok (.iload_n 1, 1) := by decide +kernel
theorem d_TF_drawn_6 : decode b_TF_drawn 6 = .ok (.bipush 20, 2) := by decide +kernel
theorem d_TF_drawn_8 : decode b_TF_drawn 8 = .ok (.if_icmp .le 6, 3) := by decide +kernel
theorem d_TF_drawn_11 : decode b_TF_drawn 11 = .ok (.bipush (-2), 2) := by decide +kernel
theorem d_TF_drawn_13 : decode b_TF_drawn 13 = .ok (.ireturn, 1) := by decide +kernel
theorem d_TF_drawn_14 : decode b_TF_drawn 14 = .ok (.aload_n 0, 1) := by decide +kernel
theorem d_TF_drawn_15 : decode b_TF_drawn 15 = .ok (.getfield 43, 3) := by decide +kernel
theorem d_TF_drawn_18 : decode b_TF_drawn 18 = .ok (.aload_n 0, 1) := by decide +kernel
theorem d_TF_drawn_19 : decode b_TF_drawn 19 = .ok (.getfield 39, 3) := by decide +kernel
theorem d_TF_drawn_22 : decode b_TF_drawn 22 = .ok (.invokevirtual 197, 3) := by decide +kernel
theorem d_TF_drawn_25 : decode b_TF_drawn 25 = .ok (.iconst 0, 1) := by decide +kernel
theorem d_TF_drawn_26 : decode b_TF_drawn 26 = .ok (.istore_n 2, 1) := by decide +kernel
theorem d_TF_drawn_27 : decode b_TF_drawn 27 = .ok (.iconst 0, 1) := by decide +kernel
theorem d_TF_drawn_28 : decode b_TF_drawn 28 = .ok (.istore_n 3, 1) := by decide +kernel
theorem d_TF_drawn_29 : decode b_TF_drawn 29 = .ok (.iload_n 3, 1) := by decide +kernel
theorem d_TF_drawn_30 : decode b_TF_drawn 30 = .ok (.iload_n 1, 1) := by decide +kernel
theorem d_TF_drawn_31 : decode b_TF_drawn 31 = .ok (.if_icmp .ge 100, 3) := by decide +kernel
theorem d_TF_drawn_34 : decode b_TF_drawn 34 = .ok (.aload_n 0, 1) := by decide +kernel
theorem d_TF_drawn_35 : decode b_TF_drawn 35 = .ok (.aload_n 0, 1) := by decide +kernel
theorem d_TF_drawn_36 : decode b_TF_drawn 36 = .ok (.getfield 68, 3) := by decide +kernel
theorem d_TF_drawn_39 : decode b_TF_drawn 39 = .ok (.ldc2_w 241, 3) := by decide +kernel
theorem d_TF_drawn_42 : decode b_TF_drawn 42 = .ok (.lmul, 1) := by decide +kernel
theorem d_TF_drawn_43 : decode b_TF_drawn 43 = .ok (.ldc2_w 243, 3) := by decide +kernel
theorem d_TF_drawn_46 : decode b_TF_drawn 46 = .ok (.ladd, 1) := by decide +kernel
theorem d_TF_drawn_47 : decode b_TF_drawn 47 = .ok (.putfield 68, 3) := by decide +kernel
theorem d_TF_drawn_50 : decode b_TF_drawn 50 = .ok (.aload_n 0, 1) := by decide +kernel
theorem d_TF_drawn_51 : decode b_TF_drawn 51 = .ok (.getfield 68, 3) := by decide +kernel
theorem d_TF_drawn_54 : decode b_TF_drawn 54 = .ok (.bipush 33, 2) := by decide +kernel
theorem d_TF_drawn_56 : decode b_TF_drawn 56 = .ok (.lushr, 1) := by decide +kernel
theorem d_TF_drawn_57 : decode b_TF_drawn 57 = .ok (.l2i, 1) := by decide +kernel
theorem d_TF_drawn_58 : decode b_TF_drawn 58 = .ok (.istore 4, 2) := by decide +kernel
theorem d_TF_drawn_60 : decode b_TF_drawn 60 = .ok (.aload_n 0, 1) := by decide +kernel
theorem d_TF_drawn_61 : decode b_TF_drawn 61 = .ok (.getfield 35, 3) := by decide +kernel
theorem d_TF_drawn_64 : decode b_TF_drawn 64 = .ok (.getfield 94, 3) := by decide +kernel
theorem d_TF_drawn_67 : decode b_TF_drawn 67 = .ok (.ifCond .le 30, 3) := by decide +kernel
theorem d_TF_drawn_70 : decode b_TF_drawn 70 = .ok (.iload 4, 2) := by decide +kernel
theorem d_TF_drawn_72 : decode b_TF_drawn 72 = .ok (.bipush 16, 2) := by decide +kernel
theorem d_TF_drawn_74 : decode b_TF_drawn 74 = .ok (.idiv, 1) := by decide +kernel
theorem d_TF_drawn_75 : decode b_TF_drawn 75 = .ok (.iconst 2, 1) := by decide +kernel
theorem d_TF_drawn_76 : decode b_TF_drawn 76 = .ok (.irem, 1) := by decide +kernel
theorem d_TF_drawn_77 : decode b_TF_drawn 77 = .ok (.ifCond .ne 20, 3) := by decide +kernel
theorem d_TF_drawn_80 : decode b_TF_drawn 80 = .ok (.aload_n 0, 1) := by decide +kernel
theorem d_TF_drawn_81 : decode b_TF_drawn 81 = .ok (.getfield 43, 3) := by decide +kernel
theorem d_TF_drawn_84 : decode b_TF_drawn 84 = .ok (.iload 4, 2) := by decide +kernel
theorem d_TF_drawn_86 : decode b_TF_drawn 86 = .ok (.aload_n 0, 1) := by decide +kernel
theorem d_TF_drawn_87 : decode b_TF_drawn 87 = .ok (.getfield 35, 3) := by decide +kernel
theorem d_TF_drawn_90 : decode b_TF_drawn 90 = .ok (.getfield 94, 3) := by decide +kernel
theorem d_TF_drawn_93 : decode b_TF_drawn 93 = .ok (.irem, 1) := by decide +kernel
theorem d_TF_drawn_94 : decode b_TF_drawn 94 = .ok (.invokevirtual 180, 3) := by decide +kernel
theorem d_TF_drawn_97 : decode b_TF_drawn 97 = .ok (.aload_n 0, 1) := by decide +kernel
theorem d_TF_drawn_98 : decode b_TF_drawn 98 = .ok (.getfield 27, 3) := by decide +kernel
theorem d_TF_drawn_101 : decode b_TF_drawn 101 = .ok (.aload_n 0, 1) := by decide +kernel
theorem d_TF_drawn_102 : decode b_TF_drawn 102 = .ok (.getfield 43, 3) := by decide +kernel
theorem d_TF_drawn_105 : decode b_TF_drawn 105 = .ok (.invokevirtual 199, 3) := by decide +kernel
theorem d_TF_drawn_108 : decode b_TF_drawn 108 = .ok (.iload_n 2, 1) := by decide +kernel
theorem d_TF_drawn_109 : decode b_TF_drawn 109 = .ok (.aload_n 0, 1) := by decide +kernel
theorem d_TF_drawn_110 : decode b_TF_drawn 110 = .ok (.getfield 27, 3) := by decide +kernel
theorem d_TF_drawn_113 : decode b_TF_drawn 113 = .ok (.aload_n 0, 1) := by decide +kernel
theorem d_TF_drawn_114 : decode b_TF_drawn 114 = .ok (.getfield 43, 3) := by decide +kernel
theorem d_TF_drawn_117 : decode b_TF_drawn 117 = .ok (.invokevirtual 116, 3) := by decide +kernel
theorem d_TF_drawn_120 : decode b_TF_drawn 120 = .ok (.invokestatic 174, 3) := by decide +kernel
theorem d_TF_drawn_123 : decode b_TF_drawn 123 = .ok (.iadd, 1) := by decide +kernel
theorem d_TF_drawn_124 : decode b_TF_drawn 124 = .ok (.istore_n 2, 1) := by decide +kernel
theorem d_TF_drawn_125 : decode b_TF_drawn 125 = .ok (.iinc 3 1, 3) := by decide +kernel
theorem d_TF_drawn_128 : decode b_TF_drawn 128 = .ok (.goto (-99), 3) := by decide +kernel
theorem d_TF_drawn_131 : decode b_TF_drawn 131 = .ok (.iload_n 2, 1) := by decide +kernel
theorem d_TF_drawn_132 : decode b_TF_drawn 132 = .ok (.ireturn, 1) := by decide +kernel
abbrev b_TF_keep : ByteArray := prog_1_method_25_code
abbrev y_TF_keep : MethodName := ⟨"TimeFlood", "keep", "(I)I"⟩
theorem m_TF_keep : MWV y_TF_keep b_TF_keep 2 (Option.some FieldType.int) 1 := ⟨wd_650, wd_651, wd_1, wd_652, by decide, by decide, by decide +kernel⟩
theorem d_TF_keep_0 : decode b_TF_keep 0 = .ok (.iload_n 1, 1) := by decide +kernel
theorem d_TF_keep_1 : decode b_TF_keep 1 = .ok (.ifCond .lt 8, 3) := by decide +kernel
theorem d_TF_keep_4 : decode b_TF_keep 4 = .ok (.iload_n 1, 1) := by decide +kernel
theorem d_TF_keep_5 : decode b_TF_keep 5 = .ok (.iconst 2, 1) := by decide +kernel
theorem d_TF_keep_6 : decode b_TF_keep 6 = .ok (.if_icmp .lt 5, 3) := by decide +kernel
theorem d_TF_keep_9 : decode b_TF_keep 9 = .ok (.iconst (-1), 1) := by decide +kernel
theorem d_TF_keep_10 : decode b_TF_keep 10 = .ok (.ireturn, 1) := by decide +kernel
theorem d_TF_keep_11 : decode b_TF_keep 11 = .ok (.aload_n 0, 1) := by decide +kernel
theorem d_TF_keep_12 : decode b_TF_keep 12 = .ok (.getfield 53, 3) := by decide +kernel
theorem d_TF_keep_15 : decode b_TF_keep 15 = .ok (.iload_n 1, 1) := by decide +kernel
theorem d_TF_keep_16 : decode b_TF_keep 16 = .ok (.aaload, 1) := by decide +kernel
theorem d_TF_keep_17 : decode b_TF_keep 17 = .ok (.aload_n 0, 1) := by decide +kernel
theorem d_TF_keep_18 : decode b_TF_keep 18 = .ok (.getfield 39, 3) := by decide +kernel
theorem d_TF_keep_21 : decode b_TF_keep 21 = .ok (.invokevirtual 197, 3) := by decide +kernel
theorem d_TF_keep_24 : decode b_TF_keep 24 = .ok (.aload_n 0, 1) := by decide +kernel
theorem d_TF_keep_25 : decode b_TF_keep 25 = .ok (.getfield 57, 3) := by decide +kernel
theorem d_TF_keep_28 : decode b_TF_keep 28 = .ok (.iload_n 1, 1) := by decide +kernel
theorem d_TF_keep_29 : decode b_TF_keep 29 = .ok (.iconst 1, 1) := by decide +kernel
theorem d_TF_keep_30 : decode b_TF_keep 30 = .ok (.bastore, 1) := by decide +kernel
theorem d_TF_keep_31 : decode b_TF_keep 31 = .ok (.aload_n 0, 1) := by decide +kernel
theorem d_TF_keep_32 : decode b_TF_keep 32 = .ok (.getfield 39, 3) := by decide +kernel
theorem d_TF_keep_35 : decode b_TF_keep 35 = .ok (.getfield 106, 3) := by decide +kernel
theorem d_TF_keep_38 : decode b_TF_keep 38 = .ok (.ireturn, 1) := by decide +kernel
abbrev b_TF_again : ByteArray := prog_1_method_26_code
abbrev y_TF_again : MethodName := ⟨"TimeFlood", "again", "(I)I"⟩
theorem m_TF_again : MWV y_TF_again b_TF_again 2 (Option.some FieldType.int) 1 := ⟨wd_654, wd_655, wd_1, wd_656, by decide, by decide, by decide +kernel⟩
theorem d_TF_again_0 : decode b_TF_again 0 = .ok (.iload_n 1, 1) := by decide +kernel
theorem d_TF_again_1 : decode b_TF_again 1 = .ok (.ifCond .lt 8, 3) := by decide +kernel
theorem d_TF_again_4 : decode b_TF_again 4 = .ok (.iload_n 1, 1) := by decide +kernel
theorem d_TF_again_5 : decode b_TF_again 5 = .ok (.iconst 2, 1) := by decide +kernel
theorem d_TF_again_6 : decode b_TF_again 6 = .ok (.if_icmp .lt 5, 3) := by decide +kernel
theorem d_TF_again_9 : decode b_TF_again 9 = .ok (.iconst (-1), 1) := by decide +kernel
theorem d_TF_again_10 : decode b_TF_again 10 = .ok (.ireturn, 1) := by decide +kernel
theorem d_TF_again_11 : decode b_TF_again 11 = .ok (.aload_n 0, 1) := by decide +kernel
theorem d_TF_again_12 : decode b_TF_again 12 = .ok (.getfield 57, 3) := by decide +kernel
theorem d_TF_again_15 : decode b_TF_again 15 = .ok (.iload_n 1, 1) := by decide +kernel
theorem d_TF_again_16 : decode b_TF_again 16 = .ok (.baload, 1) := by decide +kernel
theorem d_TF_again_17 : decode b_TF_again 17 = .ok (.ifCond .ne 6, 3) := by decide +kernel
theorem d_TF_again_20 : decode b_TF_again 20 = .ok (.bipush (-3), 2) := by decide +kernel
theorem d_TF_again_22 : decode b_TF_again 22 = .ok (.ireturn, 1) := by decide +kernel
theorem d_TF_again_23 : decode b_TF_again 23 = .ok (.aload_n 0, 1) := by decide +kernel
theorem d_TF_again_24 : decode b_TF_again 24 = .ok (.getfield 39, 3) := by decide +kernel
theorem d_TF_again_27 : decode b_TF_again 27 = .ok (.aload_n 0, 1) := by decide +kernel
theorem d_TF_again_28 : decode b_TF_again 28 = .ok (.getfield 53, 3) := by decide +kernel
theorem d_TF_again_31 : decode b_TF_again 31 = .ok (.iload_n 1, 1) := by decide +kernel
theorem d_TF_again_32 : decode b_TF_again 32 = .ok (.aaload, 1) := by decide +kernel
theorem d_TF_again_33 : decode b_TF_again 33 = .ok (.invokevirtual 197, 3) := by decide +kernel
theorem d_TF_again_36 : decode b_TF_again 36 = .ok (.aload_n 0, 1) := by decide +kernel
theorem d_TF_again_37 : decode b_TF_again 37 = .ok (.getfield 49, 3) := by decide +kernel
theorem d_TF_again_40 : decode b_TF_again 40 = .ok (.invokevirtual 88, 3) := by decide +kernel
theorem d_TF_again_43 : decode b_TF_again 43 = .ok (.aload_n 0, 1) := by decide +kernel
theorem d_TF_again_44 : decode b_TF_again 44 = .ok (.getfield 39, 3) := by decide +kernel
theorem d_TF_again_47 : decode b_TF_again 47 = .ok (.getfield 106, 3) := by decide +kernel
theorem d_TF_again_50 : decode b_TF_again 50 = .ok (.ireturn, 1) := by decide +kernel
abbrev b_M_copy : ByteArray := prog_10_method_3_code
abbrev y_M_copy : MethodName := ⟨"TimeFloodModel", "copy", "([I[I)V"⟩
theorem m_M_copy : MWS y_M_copy b_M_copy 3 none 2 := ⟨wd_984, wd_9, wd_985, by decide, by decide, by decide +kernel⟩
theorem d_M_copy_0 : decode b_M_copy 0 = .ok (.iconst 0, 1) := by decide +kernel
theorem d_M_copy_1 : decode b_M_copy 1 = .ok (.istore_n 2, 1) := by decide +kernel
theorem d_M_copy_2 : decode b_M_copy 2 = .ok (.iload_n 2, 1) := by decide +kernel
theorem d_M_copy_3 : decode b_M_copy 3 = .ok (.bipush 103, 2) := by decide +kernel
theorem d_M_copy_5 : decode b_M_copy 5 = .ok (.if_icmp .ge 15, 3) := by decide +kernel
theorem d_M_copy_8 : decode b_M_copy 8 = .ok (.aload_n 1, 1) := by decide +kernel
theorem d_M_copy_9 : decode b_M_copy 9 = .ok (.iload_n 2, 1) := by decide +kernel
theorem d_M_copy_10 : decode b_M_copy 10 = .ok (.aload_n 0, 1) := by decide +kernel
theorem d_M_copy_11 : decode b_M_copy 11 = .ok (.iload_n 2, 1) := by decide +kernel
theorem d_M_copy_12 : decode b_M_copy 12 = .ok (.iaload, 1) := by decide +kernel
theorem d_M_copy_13 : decode b_M_copy 13 = .ok (.iastore, 1) := by decide +kernel
theorem d_M_copy_14 : decode b_M_copy 14 = .ok (.iinc 2 1, 3) := by decide +kernel
theorem d_M_copy_17 : decode b_M_copy 17 = .ok (.goto (-15), 3) := by decide +kernel
theorem d_M_copy_20 : decode b_M_copy 20 = .ok (.return_, 1) := by decide +kernel
abbrev b_M_in : ByteArray := prog_10_method_4_code
abbrev y_M_in : MethodName := ⟨"TimeFloodModel", "in", "(JJJ)Z"⟩
theorem m_M_in : MWS y_M_in b_M_in 6 (Option.some FieldType.boolean) 3 := ⟨wd_787, wd_9, wd_788, by decide, by decide, by decide +kernel⟩
theorem d_M_in_0 : decode b_M_in 0 = .ok (.lload_n 0, 1) := by decide +kernel
theorem d_M_in_1 : decode b_M_in 1 = .ok (.lload_n 2, 1) := by decide +kernel
theorem d_M_in_2 : decode b_M_in 2 = .ok (.lcmp, 1) := by decide +kernel
theorem d_M_in_3 : decode b_M_in 3 = .ok (.ifCond .lt 14, 3) := by decide +kernel
theorem d_M_in_6 : decode b_M_in 6 = .ok (.lload_n 0, 1) := by decide +kernel
theorem d_M_in_7 : decode b_M_in 7 = .ok (.lload 4, 2) := by decide +kernel
theorem d_M_in_9 : decode b_M_in 9 = .ok (.lcmp, 1) := by decide +kernel
theorem d_M_in_10 : decode b_M_in 10 = .ok (.ifCond .gt 7, 3) := by decide +kernel
theorem d_M_in_13 : decode b_M_in 13 = .ok (.iconst 1, 1) := by decide +kernel
theorem d_M_in_14 : decode b_M_in 14 = .ok (.goto 4, 3) := by decide +kernel
theorem d_M_in_17 : decode b_M_in 17 = .ok (.iconst 0, 1) := by decide +kernel
theorem d_M_in_18 : decode b_M_in 18 = .ok (.ireturn, 1) := by decide +kernel
abbrev b_M_has : ByteArray := prog_10_method_5_code
abbrev y_M_has : MethodName := ⟨"TimeFloodModel", "has", "(II)Z"⟩
theorem m_M_has : MWS y_M_has b_M_has 2 (Option.some FieldType.boolean) 2 := ⟨wd_1007, wd_9, wd_1008, by decide, by decide, by decide +kernel⟩
theorem d_M_has_0 : decode b_M_has 0 = .ok (.iload_n 0, 1) := by decide +kernel
theorem d_M_has_1 : decode b_M_has 1 = .ok (.iload_n 1, 1) := by decide +kernel
theorem d_M_has_2 : decode b_M_has 2 = .ok (.ishr, 1) := by decide +kernel
theorem d_M_has_3 : decode b_M_has 3 = .ok (.iconst 1, 1) := by decide +kernel
theorem d_M_has_4 : decode b_M_has 4 = .ok (.iand, 1) := by decide +kernel
theorem d_M_has_5 : decode b_M_has 5 = .ok (.iconst 1, 1) := by decide +kernel
theorem d_M_has_6 : decode b_M_has 6 = .ok (.if_icmp .ne 7, 3) := by decide +kernel
theorem d_M_has_9 : decode b_M_has 9 = .ok (.iconst 1, 1) := by decide +kernel
theorem d_M_has_10 : decode b_M_has 10 = .ok (.goto 4, 3) := by decide +kernel
theorem d_M_has_13 : decode b_M_has 13 = .ok (.iconst 0, 1) := by decide +kernel
theorem d_M_has_14 : decode b_M_has 14 = .ok (.ireturn, 1) := by decide +kernel
abbrev b_M_ones : ByteArray := prog_10_method_6_code
abbrev y_M_ones : MethodName := ⟨"TimeFloodModel", "ones", "(I)I"⟩
theorem m_M_ones : MWS y_M_ones b_M_ones 3 (Option.some FieldType.int) 1 := ⟨wd_956, wd_9, wd_957, by decide, by decide, by decide +kernel⟩
theorem d_M_ones_0 : decode b_M_ones 0 = .ok (.iconst 0, 1) := by decide +kernel
theorem d_M_ones_1 : decode b_M_ones 1 = .ok (.istore_n 1, 1) := by decide +kernel
theorem d_M_ones_2 : decode b_M_ones 2 = .ok (.iconst 0, 1) := by decide +kernel
theorem d_M_ones_3 : decode b_M_ones 3 = .ok (.istore_n 2, 1) := by decide +kernel
theorem d_M_ones_4 : decode b_M_ones 4 = .ok (.iload_n 2, 1) := by decide +kernel
theorem d_M_ones_5 : decode b_M_ones 5 = .ok (.bipush 7, 2) := by decide +kernel
theorem d_M_ones_7 : decode b_M_ones 7 = .ok (.if_icmp .ge 17, 3) := by decide +kernel
theorem d_M_ones_10 : decode b_M_ones 10 = .ok (.iload_n 1, 1) := by decide +kernel
theorem d_M_ones_11 : decode b_M_ones 11 = .ok (.iload_n 0, 1) := by decide +kernel
theorem d_M_ones_12 : decode b_M_ones 12 = .ok (.iload_n 2, 1) := by decide +kernel
theorem d_M_ones_13 : decode b_M_ones 13 = .ok (.ishr, 1) := by decide +kernel
theorem d_M_ones_14 : decode b_M_ones 14 = .ok (.iconst 1, 1) := by decide +kernel
theorem d_M_ones_15 : decode b_M_ones 15 = .ok (.iand, 1) := by decide +kernel
theorem d_M_ones_16 : decode b_M_ones 16 = .ok (.iadd, 1) := by decide +kernel
theorem d_M_ones_17 : decode b_M_ones 17 = .ok (.istore_n 1, 1) := by decide +kernel
theorem d_M_ones_18 : decode b_M_ones 18 = .ok (.iinc 2 1, 3) := by decide +kernel
theorem d_M_ones_21 : decode b_M_ones 21 = .ok (.goto (-17), 3) := by decide +kernel
theorem d_M_ones_24 : decode b_M_ones 24 = .ok (.iload_n 1, 1) := by decide +kernel
theorem d_M_ones_25 : decode b_M_ones 25 = .ok (.ireturn, 1) := by decide +kernel
abbrev b_M_raised : ByteArray := prog_10_method_7_code
abbrev y_M_raised : MethodName := ⟨"TimeFloodModel", "raised", "(II)I"⟩
theorem m_M_raised : MWS y_M_raised b_M_raised 4 (Option.some FieldType.int) 2 := ⟨wd_1045, wd_9, wd_1046, by decide, by decide, by decide +kernel⟩
theorem d_M_raised_0 : decode b_M_raised 0 = .ok (.iconst 1, 1) := by decide +kernel
theorem d_M_raised_1 : decode b_M_raised 1 = .ok (.istore_n 2, 1) := by decide +kernel
theorem d_M_raised_2 : decode b_M_raised 2 = .ok (.iconst 0, 1) := by decide +kernel
theorem d_M_raised_3 : decode b_M_raised 3 = .ok (.istore_n 3, 1) := by decide +kernel
theorem d_M_raised_4 : decode b_M_raised 4 = .ok (.iload_n 3, 1) := by decide +kernel
theorem d_M_raised_5 : decode b_M_raised 5 = .ok (.iload_n 1, 1) := by decide +kernel
theorem d_M_raised_6 : decode b_M_raised 6 = .ok (.if_icmp .ge 13, 3) := by decide +kernel
theorem d_M_raised_9 : decode b_M_raised 9 = .ok (.iload_n 2, 1) := by decide +kernel
theorem d_M_raised_10 : decode b_M_raised 10 = .ok (.iload_n 0, 1) := by decide +kernel
theorem d_M_raised_11 : decode b_M_raised 11 = .ok (.imul, 1) := by decide +kernel
theorem d_M_raised_12 : decode b_M_raised 12 = .ok (.istore_n 2, 1) := by decide +kernel
theorem d_M_raised_13 : decode b_M_raised 13 = .ok (.iinc 3 1, 3) := by decide +kernel
theorem d_M_raised_16 : decode b_M_raised 16 = .ok (.goto (-12), 3) := by decide +kernel
theorem d_M_raised_19 : decode b_M_raised 19 = .ok (.iload_n 2, 1) := by decide +kernel
theorem d_M_raised_20 : decode b_M_raised 20 = .ok (.ireturn, 1) := by decide +kernel
abbrev b_M_factorial : ByteArray := prog_10_method_8_code
abbrev y_M_factorial : MethodName := ⟨"TimeFloodModel", "factorial", "(I)I"⟩
theorem m_M_factorial : MWS y_M_factorial b_M_factorial 3 (Option.some FieldType.int) 1 := ⟨wd_1035, wd_9, wd_1036, by decide, by decide, by decide +kernel⟩
theorem d_M_factorial_0 : decode b_M_factorial 0 = .ok (.iconst 1, 1) := by decide +kernel
theorem d_M_factorial_1 : decode b_M_factorial 1 = .ok (.istore_n 1, 1) := by decide +kernel
theorem d_M_factorial_2 : decode b_M_factorial 2 = .ok (.iconst 2, 1) := by decide +kernel
theorem d_M_factorial_3 : decode b_M_factorial 3 = .ok (.istore_n 2, 1) := by decide +kernel
theorem d_M_factorial_4 : decode b_M_factorial 4 = .ok (.iload_n 2, 1) := by decide +kernel
theorem d_M_factorial_5 : decode b_M_factorial 5 = .ok (.iload_n 0, 1) := by decide +kernel
theorem d_M_factorial_6 : decode b_M_factorial 6 = .ok (.if_icmp .gt 13, 3) := by decide +kernel
theorem d_M_factorial_9 : decode b_M_factorial 9 = .ok (.iload_n 1, 1) := by decide +kernel
theorem d_M_factorial_10 : decode b_M_factorial 10 = .ok (.iload_n 2, 1) := by decide +kernel
theorem d_M_factorial_11 : decode b_M_factorial 11 = .ok (.imul, 1) := by decide +kernel
theorem d_M_factorial_12 : decode b_M_factorial 12 = .ok (.istore_n 1, 1) := by decide +kernel
theorem d_M_factorial_13 : decode b_M_factorial 13 = .ok (.iinc 2 1, 3) := by decide +kernel
theorem d_M_factorial_16 : decode b_M_factorial 16 = .ok (.goto (-12), 3) := by decide +kernel
theorem d_M_factorial_19 : decode b_M_factorial 19 = .ok (.iload_n 1, 1) := by decide +kernel
theorem d_M_factorial_20 : decode b_M_factorial 20 = .ok (.ireturn, 1) := by decide +kernel
abbrev b_M_fraction : ByteArray := prog_10_method_9_code
abbrev y_M_fraction : MethodName := ⟨"TimeFloodModel", "fraction", "(IIZ)I"⟩
theorem m_M_fraction : MWS y_M_fraction b_M_fraction 6 (Option.some FieldType.int) 3 := ⟨wd_1038, wd_9, wd_1039, by decide, by decide, by decide +kernel⟩
theorem d_M_fraction_0 : decode b_M_fraction 0 = .ok (.iload_n 0, 1) := by decide +kernel
theorem d_M_fraction_1 : decode b_M_fraction 1 = .ok (.ifCond .ge 8, 3) := by decide +kernel
theorem d_M_fraction_4 : decode b_M_fraction 4 = .ok (.iload_n 0, 1) := by decide +kernel
theorem d_M_fraction_5 : decode b_M_fraction 5 = .ok (.ineg, 1) := by decide +kernel
theorem d_M_fraction_6 : decode b_M_fraction 6 = .ok (.goto 4, 3) := by decide +kernel
theorem d_M_fraction_9 : decode b_M_fraction 9 = .ok (.iload_n 0, 1) := by decide +kernel
theorem d_M_fraction_10 : decode b_M_fraction 10 = .ok (.istore_n 3, 1) := by decide +kernel
theorem d_M_fraction_11 : decode b_M_fraction 11 = .ok (.iload_n 1, 1) := by decide +kernel
theorem d_M_fraction_12 : decode b_M_fraction 12 = .ok (.istore 4, 2) := by decide +kernel
theorem d_M_fraction_14 : decode b_M_fraction 14 = .ok (.iload 4, 2) := by decide +kernel
theorem d_M_fraction_16 : decode b_M_fraction 16 = .ok (.ifCond .eq 19, 3) := by decide +kernel
theorem d_M_fraction_19 : decode b_M_fraction 19 = .ok (.iload_n 3, 1) := by decide +kernel
theorem d_M_fraction_20 : decode b_M_fraction 20 = .ok (.iload 4, 2) := by decide +kernel
theorem d_M_fraction_22 : decode b_M_fraction 22 = .ok (.irem, 1) := by decide +kernel
theorem d_M_fraction_23 : decode b_M_fraction 23 = .ok (.istore 5, 2) := by decide +kernel
theorem d_M_fraction_25 : decode b_M_fraction 25 = .ok (.iload 4, 2) := by decide +kernel
theorem d_M_fraction_27 : decode b_M_fraction 27 = .ok (.istore_n 3, 1) := by decide +kernel
theorem d_M_fraction_28 : decode b_M_fraction 28 = .ok (.iload 5, 2) := by decide +kernel
theorem d_M_fraction_30 : decode b_M_fraction 30 = .ok (.istore 4, 2) := by decide +kernel
theorem d_M_fraction_32 : decode b_M_fraction 32 = .ok (.goto (-18), 3) := by decide +kernel
theorem d_M_fraction_35 : decode b_M_fraction 35 = .ok (.iload_n 2, 1) := by decide +kernel
theorem d_M_fraction_36 : decode b_M_fraction 36 = .ok (.ifCond .eq 9, 3) := by decide +kernel
theorem d_M_fraction_39 : decode b_M_fraction 39 = .ok (.iload_n 0, 1) := by decide +kernel
theorem d_M_fraction_40 : decode b_M_fraction 40 = .ok (.iload_n 3, 1) := by decide +kernel
theorem d_M_fraction_41 : decode b_M_fraction 41 = .ok (.idiv, 1) := by decide +kernel
theorem d_M_fraction_42 : decode b_M_fraction 42 = .ok (.goto 6, 3) := by decide +kernel
theorem d_M_fraction_45 : decode b_M_fraction 45 = .ok (.iload_n 1, 1) := by decide +kernel
theorem d_M_fraction_46 : decode b_M_fraction 46 = .ok (.iload_n 3, 1) := by decide +kernel
theorem d_M_fraction_47 : decode b_M_fraction 47 = .ok (.idiv, 1) := by decide +kernel
theorem d_M_fraction_48 : decode b_M_fraction 48 = .ok (.ireturn, 1) := by decide +kernel
abbrev b_M_down : ByteArray := prog_10_method_10_code
abbrev y_M_down : MethodName := ⟨"TimeFloodModel", "down", "(JJ)J"⟩
theorem m_M_down : MWS y_M_down b_M_down 6 (Option.some FieldType.long) 2 := ⟨wd_871, wd_9, wd_872, by decide, by decide, by decide +kernel⟩
theorem d_M_down_0 : decode b_M_down 0 = .ok (.lload_n 0, 1) := by decide +kernel
theorem d_M_down_1 : decode b_M_down 1 = .ok (.lload_n 2, 1) := by decide +kernel
theorem d_M_down_2 : decode b_M_down 2 = .ok (.ldiv, 1) := by decide +kernel
theorem d_M_down_3 : decode b_M_down 3 = .ok (.lstore 4, 2) := by decide +kernel
theorem d_M_down_5 : decode b_M_down 5 = .ok (.lload_n 0, 1) := by decide +kernel
theorem d_M_down_6 : decode b_M_down 6 = .ok (.lload_n 2, 1) := by decide +kernel
theorem d_M_down_7 : decode b_M_down 7 = .ok (.lrem, 1) := by decide +kernel
theorem d_M_down_8 : decode b_M_down 8 = .ok (.lconst 0, 1) := by decide +kernel
theorem d_M_down_9 : decode b_M_down 9 = .ok (.lcmp, 1) := by decide +kernel
theorem d_M_down_10 : decode b_M_down 10 = .ok (.ifCond .ge 10, 3) := by decide +kernel
theorem d_M_down_13 : decode b_M_down 13 = .ok (.lload 4, 2) := by decide +kernel
theorem d_M_down_15 : decode b_M_down 15 = .ok (.lconst 1, 1) := by decide +kernel
theorem d_M_down_16 : decode b_M_down 16 = .ok (.lsub, 1) := by decide +kernel
theorem d_M_down_17 : decode b_M_down 17 = .ok (.goto 5, 3) := by decide +kernel
theorem d_M_down_20 : decode b_M_down 20 = .ok (.lload 4, 2) := by decide +kernel
theorem d_M_down_22 : decode b_M_down 22 = .ok (.lreturn, 1) := by decide +kernel
abbrev b_M_round : ByteArray := prog_10_method_11_code
abbrev y_M_round : MethodName := ⟨"TimeFloodModel", "round", "(J)I"⟩
theorem m_M_round : MWS y_M_round b_M_round 2 (Option.some FieldType.int) 1 := ⟨wd_874, wd_9, wd_875, by decide, by decide, by decide +kernel⟩
theorem d_M_round_0 : decode b_M_round 0 = .ok (.lload_n 0, 1) := by decide +kernel
theorem d_M_round_1 : decode b_M_round 1 = .ok (.lload_n 0, 1) := by decide +kernel
theorem d_M_round_2 : decode b_M_round 2 = .ok (.ldc2_w 84, 3) := by decide +kernel
theorem d_M_round_5 : decode b_M_round 5 = .ok (.invokestatic 86, 3) := by decide +kernel
theorem d_M_round_8 : decode b_M_round 8 = .ok (.ldc2_w 84, 3) := by decide +kernel
theorem d_M_round_11 : decode b_M_round 11 = .ok (.lmul, 1) := by decide +kernel
theorem d_M_round_12 : decode b_M_round 12 = .ok (.lsub, 1) := by decide +kernel
theorem d_M_round_13 : decode b_M_round 13 = .ok (.l2i, 1) := by decide +kernel
theorem d_M_round_14 : decode b_M_round 14 = .ok (.ireturn, 1) := by decide +kernel
abbrev b_M_near : ByteArray := prog_10_method_12_code
abbrev y_M_near : MethodName := ⟨"TimeFloodModel", "near", "(J)I"⟩
theorem m_M_near : MWS y_M_near b_M_near 3 (Option.some FieldType.int) 1 := ⟨wd_878, wd_9, wd_879, by decide, by decide, by decide +kernel⟩
theorem d_M_near_0 : decode b_M_near 0 = .ok (.lload_n 0, 1) := by decide +kernel
theorem d_M_near_1 : decode b_M_near 1 = .ok (.invokestatic 90, 3) := by decide +kernel
theorem d_M_near_4 : decode b_M_near 4 = .ok (.istore_n 2, 1) := by decide +kernel
theorem d_M_near_5 : decode b_M_near 5 = .ok (.iload_n 2, 1) := by decide +kernel
theorem d_M_near_6 : decode b_M_near 6 = .ok (.sipush 511, 3) := by decide +kernel
theorem d_M_near_9 : decode b_M_near 9 = .ok (.if_icmp .le 11, 3) := by decide +kernel
theorem d_M_near_12 : decode b_M_near 12 = .ok (.iload_n 2, 1) := by decide +kernel
theorem d_M_near_13 : decode b_M_near 13 = .ok (.sipush 1024, 3) := by decide +kernel
theorem d_M_near_16 : decode b_M_near 16 = .ok (.isub, 1) := by decide +kernel
theorem d_M_near_17 : decode b_M_near 17 = .ok (.goto 4, 3) := by decide +kernel
theorem d_M_near_20 : decode b_M_near 20 = .ok (.iload_n 2, 1) := by decide +kernel
theorem d_M_near_21 : decode b_M_near 21 = .ok (.ireturn, 1) := by decide +kernel
abbrev b_M_isNode : ByteArray := prog_10_method_13_code
abbrev y_M_isNode : MethodName := ⟨"TimeFloodModel", "isNode", "(I)Z"⟩
theorem m_M_isNode : MWV y_M_isNode b_M_isNode 2 (Option.some FieldType.boolean) 1 := ⟨wd_896, wp_29, wd_9, wd_897, by decide, by decide, by decide +kernel⟩
theorem d_M_isNode_0 : decode b_M_isNode 0 = .ok (.iload_n 1, 1) := by decide +kernel
theorem d_M_isNode_1 : decode b_M_isNode 1 = .ok (.i2l, 1) := by decide +kernel
theorem d_M_isNode_2 : decode b_M_isNode 2 = .ok (.lconst 0, 1) := by decide +kernel
theorem d_M_isNode_3 : decode b_M_isNode 3 = .ok (.aload_n 0, 1) := by decide +kernel
theorem d_M_isNode_4 : decode b_M_isNode 4 = .ok (.getfield 94, 3) := by decide +kernel
theorem d_M_isNode_7 : decode b_M_isNode 7 = .ok (.iconst 1, 1) := by decide +kernel
theorem d_M_isNode_8 : decode b_M_isNode 8 = .ok (.isub, 1) := by decide +kernel
theorem d_M_isNode_9 : decode b_M_isNode 9 = .ok (.i2l, 1) := by decide +kernel
theorem d_M_isNode_10 : decode b_M_isNode 10 = .ok (.invokestatic 97, 3) := by decide +kernel
theorem d_M_isNode_13 : decode b_M_isNode 13 = .ok (.ireturn, 1) := by decide +kernel
abbrev b_M_isLink : ByteArray := prog_10_method_14_code
abbrev y_M_isLink : MethodName := ⟨"TimeFloodModel", "isLink", "(I)Z"⟩
theorem m_M_isLink : MWV y_M_isLink b_M_isLink 2 (Option.some FieldType.boolean) 1 := ⟨wd_915, wp_31, wd_9, wd_916, by decide, by decide, by decide +kernel⟩
theorem d_M_isLink_0 : decode b_M_isLink 0 = .ok (.iload_n 1, 1) := by decide +kernel
theorem d_M_isLink_1 : decode b_M_isLink 1 = .ok (.i2l, 1) := by decide +kernel
theorem d_M_isLink_2 : decode b_M_isLink 2 = .ok (.lconst 0, 1) := by decide +kernel
theorem d_M_isLink_3 : decode b_M_isLink 3 = .ok (.aload_n 0, 1) := by decide +kernel
theorem d_M_isLink_4 : decode b_M_isLink 4 = .ok (.getfield 101, 3) := by decide +kernel
theorem d_M_isLink_7 : decode b_M_isLink 7 = .ok (.iconst 1, 1) := by decide +kernel
theorem d_M_isLink_8 : decode b_M_isLink 8 = .ok (.isub, 1) := by decide +kernel
theorem d_M_isLink_9 : decode b_M_isLink 9 = .ok (.i2l, 1) := by decide +kernel
theorem d_M_isLink_10 : decode b_M_isLink 10 = .ok (.invokestatic 97, 3) := by decide +kernel
theorem d_M_isLink_13 : decode b_M_isLink 13 = .ok (.ireturn, 1) := by decide +kernel
abbrev b_M_write : ByteArray := prog_10_method_15_code
abbrev y_M_write : MethodName := ⟨"TimeFloodModel", "write", "(I)I"⟩
theorem m_M_write : MWV y_M_write b_M_write 2 (Option.some FieldType.int) 1 := ⟨wd_782, wd_783, wd_9, wd_784, by decide, by decide, by decide +kernel⟩
theorem d_M_write_0 : decode b_M_write 0 = .ok (.iload_n 1, 1) := by decide +kernel
theorem d_M_write_1 : decode b_M_write 1 = .ok (.i2l, 1) := by decide +kernel
theorem d_M_write_2 : decode b_M_write 2 = .ok (.lconst 0, 1) := by decide +kernel
theorem d_M_write_3 : decode b_M_write 3 = .ok (.ldc2_w 104, 3) := by decide +kernel
theorem d_M_write_6 : decode b_M_write 6 = .ok (.invokestatic 97, 3) := by decide +kernel
theorem d_M_write_9 : decode b_M_write 9 = .ok (.ifCond .ne 6, 3) := by decide +kernel
theorem d_M_write_12 : decode b_M_write 12 = .ok (.bipush (-2), 2) := by decide +kernel
theorem d_M_write_14 : decode b_M_write 14 = .ok (.ireturn, 1) := by decide +kernel
theorem d_M_write_15 : decode b_M_write 15 = .ok (.aload_n 0, 1) := by decide +kernel
theorem d_M_write_16 : decode b_M_write 16 = .ok (.getfield 106, 3) := by decide +kernel
theorem d_M_write_19 : decode b_M_write 19 = .ok (.bipush 60, 2) := by decide +kernel
theorem d_M_write_21 : decode b_M_write 21 = .ok (.if_icmp .ne 6, 3) := by decide +kernel
theorem d_M_write_24 : decode b_M_write 24 = .ok (.bipush (-4), 2) := by decide +kernel
theorem d_M_write_26 : decode b_M_write 26 = .ok (.ireturn, 1) := by decide +kernel
theorem d_M_write_27 : decode b_M_write 27 = .ok (.aload_n 0, 1) := by decide +kernel
theorem d_M_write_28 : decode b_M_write 28 = .ok (.getfield 7, 3) := by decide +kernel
theorem d_M_write_31 : decode b_M_write 31 = .ok (.aload_n 0, 1) := by decide +kernel
theorem d_M_write_32 : decode b_M_write 32 = .ok (.getfield 106, 3) := by decide +kernel
theorem d_M_write_35 : decode b_M_write 35 = .ok (.iload_n 1, 1) := by decide +kernel
theorem d_M_write_36 : decode b_M_write 36 = .ok (.iastore, 1) := by decide +kernel
theorem d_M_write_37 : decode b_M_write 37 = .ok (.aload_n 0, 1) := by decide +kernel
theorem d_M_write_38 : decode b_M_write 38 = .ok (.dup, 1) := by decide +kernel
theorem d_M_write_39 : decode b_M_write 39 = .ok (.getfield 106, 3) := by decide +kernel
theorem d_M_write_42 : decode b_M_write 42 = .ok (.iconst 1, 1) := by decide +kernel
theorem d_M_write_43 : decode b_M_write 43 = .ok (.iadd, 1) := by decide +kernel
theorem d_M_write_44 : decode b_M_write 44 = .ok (.putfield 106, 3) := by decide +kernel
theorem d_M_write_47 : decode b_M_write 47 = .ok (.aload_n 0, 1) := by decide +kernel
theorem d_M_write_48 : decode b_M_write 48 = .ok (.getfield 106, 3) := by decide +kernel
theorem d_M_write_51 : decode b_M_write 51 = .ok (.ireturn, 1) := by decide +kernel
abbrev b_M_wipe : ByteArray := prog_10_method_16_code
abbrev y_M_wipe : MethodName := ⟨"TimeFloodModel", "wipe", "()I"⟩
theorem m_M_wipe : MWV y_M_wipe b_M_wipe 2 (Option.some FieldType.int) 0 := ⟨wd_790, wd_791, wd_9, wd_792, by decide, by decide, by decide +kernel⟩
theorem d_M_wipe_0 : decode b_M_wipe 0 = .ok (.aload_n 0, 1) := by decide +kernel
theorem d_M_wipe_1 : decode b_M_wipe 1 = .ok (.getfield 106, 3) := by decide +kernel
theorem d_M_wipe_4 : decode b_M_wipe 4 = .ok (.istore_n 1, 1) := by decide +kernel
theorem d_M_wipe_5 : decode b_M_wipe 5 = .ok (.aload_n 0, 1) := by decide +kernel
theorem d_M_wipe_6 : decode b_M_wipe 6 = .ok (.iconst 0, 1) := by decide +kernel
theorem d_M_wipe_7 : decode b_M_wipe 7 = .ok (.putfield 106, 3) := by decide +kernel
theorem d_M_wipe_10 : decode b_M_wipe 10 = .ok (.iload_n 1, 1) := by decide +kernel
theorem d_M_wipe_11 : decode b_M_wipe 11 = .ok (.ireturn, 1) := by decide +kernel
abbrev b_M_areLinkedAsRead : ByteArray := prog_10_method_17_code
abbrev y_M_areLinkedAsRead : MethodName := ⟨"TimeFloodModel", "areLinkedAsRead", "(II)Z"⟩
theorem m_M_areLinkedAsRead : MWV y_M_areLinkedAsRead b_M_areLinkedAsRead 5 (Option.some FieldType.boolean) 2 := ⟨wd_828, wp_20, wd_9, wd_829, by decide, by decide, by decide +kernel⟩
theorem d_M_areLinkedAsRead_0 : decode b_M_areLinkedAsRead 0 = .ok (.iconst 0, 1) := by decide +kernel
theorem d_M_areLinkedAsRead_1 : decode b_M_areLinkedAsRead 1 = .ok (.istore_n 3, 1) := by decide +kernel
theorem d_M_areLinkedAsRead_2 : decode b_M_areLinkedAsRead 2 = .ok (.iconst 0, 1) := by decide +kernel
theorem d_M_areLinkedAsRead_3 : decode b_M_areLinkedAsRead 3 = .ok (.istore 4, 2) := by decide +kernel
theorem d_M_areLinkedAsRead_5 : decode b_M_areLinkedAsRead 5 = .ok (.iload 4, 2) := by decide +kernel
theorem d_M_areLinkedAsRead_7 : decode b_M_areLinkedAsRead 7 = .ok (.aload_n 0, 1) := by decide +kernel
theorem d_M_areLinkedAsRead_8 : decode b_M_areLinkedAsRead 8 = .ok (.getfield 109, 3) := by decide +kernel
theorem d_M_areLinkedAsRead_11 : decode b_M_areLinkedAsRead 11 = .ok (.if_icmp .ge 63, 3) := by decide +kernel
theorem d_M_areLinkedAsRead_14 : decode b_M_areLinkedAsRead 14 = .ok (.iload_n 3, 1) := by decide +kernel
theorem d_M_areLinkedAsRead_15 : decode b_M_areLinkedAsRead 15 = .ok (.ifCond .ne 47, 3) := by decide +kernel
theorem d_M_areLinkedAsRead_18 : decode b_M_areLinkedAsRead 18 = .ok (.aload_n 0, 1) := by decide +kernel
theorem d_M_areLinkedAsRead_19 : decode b_M_areLinkedAsRead 19 = .ok (.getfield 71, 3) := by decide +kernel
theorem d_M_areLinkedAsRead_22 : decode b_M_areLinkedAsRead 22 = .ok (.iload 4, 2) := by decide +kernel
theorem d_M_areLinkedAsRead_24 : decode b_M_areLinkedAsRead 24 = .ok (.iaload, 1) := by decide +kernel
theorem d_M_areLinkedAsRead_25 : decode b_M_areLinkedAsRead 25 = .ok (.iload_n 1, 1) := by decide +kernel
theorem d_M_areLinkedAsRead_26 : decode b_M_areLinkedAsRead 26 = .ok (.if_icmp .ne 14, 3) := by decide +kernel
theorem d_M_areLinkedAsRead_29 : decode b_M_areLinkedAsRead 29 = .ok (.aload_n 0, 1) := by decide +kernel
theorem d_M_areLinkedAsRead_30 : decode b_M_areLinkedAsRead 30 = .ok (.getfield 74, 3) := by decide +kernel
theorem d_M_areLinkedAsRead_33 : decode b_M_areLinkedAsRead 33 = .ok (.iload 4, 2) := by decide +kernel
theorem d_M_areLinkedAsRead_35 : decode b_M_areLinkedAsRead 35 = .ok (.iaload, 1) := by decide +kernel
theorem d_M_areLinkedAsRead_36 : decode b_M_areLinkedAsRead 36 = .ok (.iload_n 2, 1) := by decide +kernel
theorem d_M_areLinkedAsRead_37 : decode b_M_areLinkedAsRead 37 = .ok (.if_icmp .eq 25, 3) := by decide +kernel
theorem d_M_areLinkedAsRead_40 : decode b_M_areLinkedAsRead 40 = .ok (.aload_n 0, 1) := by decide +kernel
theorem d_M_areLinkedAsRead_41 : decode b_M_areLinkedAsRead 41 = .ok (.getfield 71, 3) := by decide +kernel
theorem d_M_areLinkedAsRead_44 : decode b_M_areLinkedAsRead 44 = .ok (.iload 4, 2) := by decide +kernel
theorem d_M_areLinkedAsRead_46 : decode b_M_areLinkedAsRead 46 = .ok (.iaload, 1) := by decide +kernel
theorem d_M_areLinkedAsRead_47 : decode b_M_areLinkedAsRead 47 = .ok (.iload_n 2, 1) := by decide +kernel
theorem d_M_areLinkedAsRead_48 : decode b_M_areLinkedAsRead 48 = .ok (.if_icmp .ne 18, 3) := by decide +kernel
theorem d_M_areLinkedAsRead_51 : decode b_M_areLinkedAsRead 51 = .ok (.aload_n 0, 1) := by decide +kernel
theorem d_M_areLinkedAsRead_52 : decode b_M_areLinkedAsRead 52 = .ok (.getfield 74, 3) := by decide +kernel
theorem d_M_areLinkedAsRead_55 : decode b_M_areLinkedAsRead 55 = .ok (.iload 4, 2) := by decide +kernel
theorem d_M_areLinkedAsRead_57 : decode b_M_areLinkedAsRead 57 = .ok (.iaload, 1) := by decide +kernel
theorem d_M_areLinkedAsRead_58 : decode b_M_areLinkedAsRead 58 = .ok (.iload_n 1, 1) := by decide +kernel
theorem d_M_areLinkedAsRead_59 : decode b_M_areLinkedAsRead 59 = .ok (.if_icmp .ne 7, 3) := by decide +kernel
theorem d_M_areLinkedAsRead_62 : decode b_M_areLinkedAsRead 62 = .ok (.iconst 1, 1) := by decide +kernel
theorem d_M_areLinkedAsRead_63 : decode b_M_areLinkedAsRead 63 = .ok (.goto 4, 3) := by decide +kernel
theorem d_M_areLinkedAsRead_66 : decode b_M_areLinkedAsRead 66 = .ok (.iconst 0, 1) := by decide +kernel
theorem d_M_areLinkedAsRead_67 : decode b_M_areLinkedAsRead 67 = .ok (.istore_n 3, 1) := by decide +kernel
theorem d_M_areLinkedAsRead_68 : decode b_M_areLinkedAsRead 68 = .ok (.iinc 4 1, 3) := by decide +kernel
theorem d_M_areLinkedAsRead_71 : decode b_M_areLinkedAsRead 71 = .ok (.goto (-66), 3) := by decide +kernel
theorem d_M_areLinkedAsRead_74 : decode b_M_areLinkedAsRead 74 = .ok (.iload_n 3, 1) := by decide +kernel
theorem d_M_areLinkedAsRead_75 : decode b_M_areLinkedAsRead 75 = .ok (.ireturn, 1) := by decide +kernel
abbrev b_M_isFullAsRead : ByteArray := prog_10_method_18_code
abbrev y_M_isFullAsRead : MethodName := ⟨"TimeFloodModel", "isFullAsRead", "(I)Z"⟩
theorem m_M_isFullAsRead : MWV y_M_isFullAsRead b_M_isFullAsRead 4 (Option.some FieldType.boolean) 1 := ⟨wd_824, wp_19, wd_9, wd_825, by decide, by decide, by decide +kernel⟩
theorem d_M_isFullAsRead_0 : decode b_M_isFullAsRead 0 = .ok (.iconst 1, 1) := by decide +kernel
theorem d_M_isFullAsRead_1 : decode b_M_isFullAsRead 1 = .ok (.istore_n 2, 1) := by decide +kernel
theorem d_M_isFullAsRead_2 : decode b_M_isFullAsRead 2 = .ok (.iconst 0, 1) := by decide +kernel
theorem d_M_isFullAsRead_3 : decode b_M_isFullAsRead 3 = .ok (.istore_n 3, 1) := by decide +kernel
theorem d_M_isFullAsRead_4 : decode b_M_isFullAsRead 4 = .ok (.iload_n 3, 1) := by decide +kernel
theorem d_M_isFullAsRead_5 : decode b_M_isFullAsRead 5 = .ok (.aload_n 0, 1) := by decide +kernel
theorem d_M_isFullAsRead_6 : decode b_M_isFullAsRead 6 = .ok (.getfield 112, 3) := by decide +kernel
theorem d_M_isFullAsRead_9 : decode b_M_isFullAsRead 9 = .ok (.if_icmp .ge 33, 3) := by decide +kernel
theorem d_M_isFullAsRead_12 : decode b_M_isFullAsRead 12 = .ok (.iload_n 2, 1) := by decide +kernel
theorem d_M_isFullAsRead_13 : decode b_M_isFullAsRead 13 = .ok (.ifCond .eq 21, 3) := by decide +kernel
theorem d_M_isFullAsRead_16 : decode b_M_isFullAsRead 16 = .ok (.iload_n 3, 1) := by decide +kernel
theorem d_M_isFullAsRead_17 : decode b_M_isFullAsRead 17 = .ok (.iload_n 1, 1) := by decide +kernel
theorem d_M_isFullAsRead_18 : decode b_M_isFullAsRead 18 = .ok (.if_icmp .eq 12, 3) := by decide +kernel
theorem d_M_isFullAsRead_21 : decode b_M_isFullAsRead 21 = .ok (.aload_n 0, 1) := by decide +kernel
theorem d_M_isFullAsRead_22 : decode b_M_isFullAsRead 22 = .ok (.iload_n 1, 1) := by decide +kernel
theorem d_M_isFullAsRead_23 : decode b_M_isFullAsRead 23 = .ok (.iload_n 3, 1) := by decide +kernel
theorem d_M_isFullAsRead_24 : decode b_M_isFullAsRead 24 = .ok (.invokevirtual 115, 3) := by decide +kernel
theorem d_M_isFullAsRead_27 : decode b_M_isFullAsRead 27 = .ok (.ifCond .eq 7, 3) := by decide +kernel
theorem d_M_isFullAsRead_30 : decode b_M_isFullAsRead 30 = .ok (.iconst 1, 1) := by decide +kernel
theorem d_M_isFullAsRead_31 : decode b_M_isFullAsRead 31 = .ok (.goto 4, 3) := by decide +kernel
theorem d_M_isFullAsRead_34 : decode b_M_isFullAsRead 34 = .ok (.iconst 0, 1) := by decide +kernel
theorem d_M_isFullAsRead_35 : decode b_M_isFullAsRead 35 = .ok (.istore_n 2, 1) := by decide +kernel
theorem d_M_isFullAsRead_36 : decode b_M_isFullAsRead 36 = .ok (.iinc 3 1, 3) := by decide +kernel
theorem d_M_isFullAsRead_39 : decode b_M_isFullAsRead 39 = .ok (.goto (-35), 3) := by decide +kernel
theorem d_M_isFullAsRead_42 : decode b_M_isFullAsRead 42 = .ok (.iload_n 2, 1) := by decide +kernel
theorem d_M_isFullAsRead_43 : decode b_M_isFullAsRead 43 = .ok (.ireturn, 1) := by decide +kernel
abbrev b_M_mayLink : ByteArray := prog_10_method_19_code
abbrev y_M_mayLink : MethodName := ⟨"TimeFloodModel", "mayLink", "()Z"⟩
theorem m_M_mayLink : MWV y_M_mayLink b_M_mayLink 3 (Option.some FieldType.boolean) 0 := ⟨wd_832, wp_21, wd_9, wd_833, by decide, by decide, by decide +kernel⟩
theorem d_M_mayLink_0 : decode b_M_mayLink 0 = .ok (.iconst 0, 1) := by decide +kernel
theorem d_M_mayLink_1 : decode b_M_mayLink 1 = .ok (.istore_n 1, 1) := by decide +kernel
theorem d_M_mayLink_2 : decode b_M_mayLink 2 = .ok (.iconst 0, 1) := by decide +kernel
theorem d_M_mayLink_3 : decode b_M_mayLink 3 = .ok (.istore_n 2, 1) := by decide +kernel
theorem d_M_mayLink_4 : decode b_M_mayLink 4 = .ok (.iload_n 2, 1) := by decide +kernel
theorem d_M_mayLink_5 : decode b_M_mayLink 5 = .ok (.aload_n 0, 1) := by decide +kernel
theorem d_M_mayLink_6 : decode b_M_mayLink 6 = .ok (.getfield 112, 3) := by decide +kernel
theorem d_M_mayLink_9 : decode b_M_mayLink 9 = .ok (.if_icmp .ge 27, 3) := by decide +kernel
theorem d_M_mayLink_12 : decode b_M_mayLink 12 = .ok (.iload_n 1, 1) := by decide +kernel
theorem d_M_mayLink_13 : decode b_M_mayLink 13 = .ok (.ifCond .ne 11, 3) := by decide +kernel
theorem d_M_mayLink_16 : decode b_M_mayLink 16 = .ok (.aload_n 0, 1) := by decide +kernel
theorem d_M_mayLink_17 : decode b_M_mayLink 17 = .ok (.iload_n 2, 1) := by decide +kernel
theorem d_M_mayLink_18 : decode b_M_mayLink 18 = .ok (.invokevirtual 119, 3) := by decide +kernel
theorem d_M_mayLink_21 : decode b_M_mayLink 21 = .ok (.ifCond .ne 7, 3) := by decide +kernel
theorem d_M_mayLink_24 : decode b_M_mayLink 24 = .ok (.iconst 1, 1) := by decide +kernel
theorem d_M_mayLink_25 : decode b_M_mayLink 25 = .ok (.goto 4, 3) := by decide +kernel
theorem d_M_mayLink_28 : decode b_M_mayLink 28 = .ok (.iconst 0, 1) := by decide +kernel
theorem d_M_mayLink_29 : decode b_M_mayLink 29 = .ok (.istore_n 1, 1) := by decide +kernel
theorem d_M_mayLink_30 : decode b_M_mayLink 30 = .ok (.iinc 2 1, 3) := by decide +kernel
theorem d_M_mayLink_33 : decode b_M_mayLink 33 = .ok (.goto (-29), 3) := by decide +kernel
theorem d_M_mayLink_36 : decode b_M_mayLink 36 = .ok (.iload_n 1, 1) := by decide +kernel
theorem d_M_mayLink_37 : decode b_M_mayLink 37 = .ok (.ifCond .eq 16, 3) := by decide +kernel
theorem d_M_mayLink_40 : decode b_M_mayLink 40 = .ok (.aload_n 0, 1) := by decide +kernel
theorem d_M_mayLink_41 : decode b_M_mayLink 41 = .ok (.getfield 109, 3) := by decide +kernel
theorem d_M_mayLink_44 : decode b_M_mayLink 44 = .ok (.bipush 7, 2) := by decide +kernel
theorem d_M_mayLink_46 : decode b_M_mayLink 46 = .ok (.if_icmp .ge 7, 3) := by decide +kernel
theorem d_M_mayLink_49 : decode b_M_mayLink 49 = .ok (.iconst 1, 1) := by decide +kernel
theorem d_M_mayLink_50 : decode b_M_mayLink 50 = .ok (.goto 4, 3) := by decide +kernel
theorem d_M_mayLink_53 : decode b_M_mayLink 53 = .ok (.iconst 0, 1) := by decide +kernel
theorem d_M_mayLink_54 : decode b_M_mayLink 54 = .ok (.ireturn, 1) := by decide +kernel
abbrev b_M_takeHead : ByteArray := prog_10_method_20_code
abbrev y_M_takeHead : MethodName := ⟨"TimeFloodModel", "takeHead", "(I)Z"⟩
theorem m_M_takeHead : MWV y_M_takeHead b_M_takeHead 2 (Option.some FieldType.boolean) 1 := ⟨wd_807, wp_16, wd_9, wd_808, by decide, by decide, by decide +kernel⟩
theorem d_M_takeHead_0 : decode b_M_takeHead 0 = .ok (.aload_n 0, 1) := by decide +kernel
theorem d_M_takeHead_1 : decode b_M_takeHead 1 = .ok (.dup, 1) := by decide +kernel
theorem d_M_takeHead_2 : decode b_M_takeHead 2 = .ok (.getfield 123, 3) := by decide +kernel
theorem d_M_takeHead_5 : decode b_M_takeHead 5 = .ok (.iconst 1, 1) := by decide +kernel
theorem d_M_takeHead_6 : decode b_M_takeHead 6 = .ok (.iadd, 1) := by decide +kernel
theorem d_M_takeHead_7 : decode b_M_takeHead 7 = .ok (.putfield 123, 3) := by decide +kernel
theorem d_M_takeHead_10 : decode b_M_takeHead 10 = .ok (.aload_n 0, 1) := by decide +kernel
theorem d_M_takeHead_11 : decode b_M_takeHead 11 = .ok (.getfield 123, 3) := by decide +kernel
theorem d_M_takeHead_14 : decode b_M_takeHead 14 = .ok (.tableswitch 104 1 3 #[26, 41, 89], 26) := by decide +kernel
theorem d_M_takeHead_40 : decode b_M_takeHead 40 = .ok (.aload_n 0, 1) := by decide +kernel
theorem d_M_takeHead_41 : decode b_M_takeHead 41 = .ok (.iload_n 1, 1) := by decide +kernel
theorem d_M_takeHead_42 : decode b_M_takeHead 42 = .ok (.putfield 126, 3) := by decide +kernel
theorem d_M_takeHead_45 : decode b_M_takeHead 45 = .ok (.iload_n 1, 1) := by decide +kernel
theorem d_M_takeHead_46 : decode b_M_takeHead 46 = .ok (.i2l, 1) := by decide +kernel
theorem d_M_takeHead_47 : decode b_M_takeHead 47 = .ok (.lconst 0, 1) := by decide +kernel
theorem d_M_takeHead_48 : decode b_M_takeHead 48 = .ok (.ldc2_w 129, 3) := by decide +kernel
theorem d_M_takeHead_51 : decode b_M_takeHead 51 = .ok (.invokestatic 97, 3) := by decide +kernel
theorem d_M_takeHead_54 : decode b_M_takeHead 54 = .ok (.ireturn, 1) := by decide +kernel
theorem d_M_takeHead_55 : decode b_M_takeHead 55 = .ok (.aload_n 0, 1) := by decide +kernel
theorem d_M_takeHead_56 : decode b_M_takeHead 56 = .ok (.bipush 10, 2) := by decide +kernel
theorem d_M_takeHead_58 : decode b_M_takeHead 58 = .ok (.aload_n 0, 1) := by decide +kernel
theorem d_M_takeHead_59 : decode b_M_takeHead 59 = .ok (.getfield 126, 3) := by decide +kernel
theorem d_M_takeHead_62 : decode b_M_takeHead 62 = .ok (.imul, 1) := by decide +kernel
theorem d_M_takeHead_63 : decode b_M_takeHead 63 = .ok (.iload_n 1, 1) := by decide +kernel
theorem d_M_takeHead_64 : decode b_M_takeHead 64 = .ok (.iadd, 1) := by decide +kernel
theorem d_M_takeHead_65 : decode b_M_takeHead 65 = .ok (.putfield 126, 3) := by decide +kernel
theorem d_M_takeHead_68 : decode b_M_takeHead 68 = .ok (.iload_n 1, 1) := by decide +kernel
theorem d_M_takeHead_69 : decode b_M_takeHead 69 = .ok (.i2l, 1) := by decide +kernel
theorem d_M_takeHead_70 : decode b_M_takeHead 70 = .ok (.lconst 0, 1) := by decide +kernel
theorem d_M_takeHead_71 : decode b_M_takeHead 71 = .ok (.ldc2_w 131, 3) := by decide +kernel
theorem d_M_takeHead_74 : decode b_M_takeHead 74 = .ok (.invokestatic 97, 3) := by decide +kernel
theorem d_M_takeHead_77 : decode b_M_takeHead 77 = .ok (.ifCond .eq 24, 3) := by decide +kernel
theorem d_M_takeHead_80 : decode b_M_takeHead 80 = .ok (.aload_n 0, 1) := by decide +kernel
theorem d_M_takeHead_81 : decode b_M_takeHead 81 = .ok (.getfield 126, 3) := by decide +kernel
theorem d_M_takeHead_84 : decode b_M_takeHead 84 = .ok (.i2l, 1) := by decide +kernel
theorem d_M_takeHead_85 : decode b_M_takeHead 85 = .ok (.ldc2_w 133, 3) := by decide +kernel
theorem d_M_takeHead_88 : decode b_M_takeHead 88 = .ok (.ldc2_w 135, 3) := by decide +kernel
theorem d_M_takeHead_91 : decode b_M_takeHead 91 = .ok (.invokestatic 97, 3) := by decide +kernel
theorem d_M_takeHead_94 : decode b_M_takeHead 94 = .ok (.ifCond .eq 7, 3) := by decide +kernel
theorem d_M_takeHead_97 : decode b_M_takeHead 97 = .ok (.iconst 1, 1) := by decide +kernel
theorem d_M_takeHead_98 : decode b_M_takeHead 98 = .ok (.goto 4, 3) := by decide +kernel
theorem d_M_takeHead_101 : decode b_M_takeHead 101 = .ok (.iconst 0, 1) := by decide +kernel
theorem d_M_takeHead_102 : decode b_M_takeHead 102 = .ok (.ireturn, 1) := by decide +kernel
theorem d_M_takeHead_103 : decode b_M_takeHead 103 = .ok (.aload_n 0, 1) := by decide +kernel
theorem d_M_takeHead_104 : decode b_M_takeHead 104 = .ok (.iload_n 1, 1) := by decide +kernel
theorem d_M_takeHead_105 : decode b_M_takeHead 105 = .ok (.putfield 137, 3) := by decide +kernel
theorem d_M_takeHead_108 : decode b_M_takeHead 108 = .ok (.iload_n 1, 1) := by decide +kernel
theorem d_M_takeHead_109 : decode b_M_takeHead 109 = .ok (.i2l, 1) := by decide +kernel
theorem d_M_takeHead_110 : decode b_M_takeHead 110 = .ok (.lconst 1, 1) := by decide +kernel
theorem d_M_takeHead_111 : decode b_M_takeHead 111 = .ok (.ldc2_w 131, 3) := by decide +kernel
theorem d_M_takeHead_114 : decode b_M_takeHead 114 = .ok (.invokestatic 97, 3) := by decide +kernel
theorem d_M_takeHead_117 : decode b_M_takeHead 117 = .ok (.ireturn, 1) := by decide +kernel
theorem d_M_takeHead_118 : decode b_M_takeHead 118 = .ok (.aload_n 0, 1) := by decide +kernel
theorem d_M_takeHead_119 : decode b_M_takeHead 119 = .ok (.iload_n 1, 1) := by decide +kernel
theorem d_M_takeHead_120 : decode b_M_takeHead 120 = .ok (.putfield 140, 3) := by decide +kernel
theorem d_M_takeHead_123 : decode b_M_takeHead 123 = .ok (.aload_n 0, 1) := by decide +kernel
theorem d_M_takeHead_124 : decode b_M_takeHead 124 = .ok (.iconst 0, 1) := by decide +kernel
theorem d_M_takeHead_125 : decode b_M_takeHead 125 = .ok (.putfield 143, 3) := by decide +kernel
theorem d_M_takeHead_128 : decode b_M_takeHead 128 = .ok (.iload_n 1, 1) := by decide +kernel
theorem d_M_takeHead_129 : decode b_M_takeHead 129 = .ok (.i2l, 1) := by decide +kernel
theorem d_M_takeHead_130 : decode b_M_takeHead 130 = .ok (.lconst 0, 1) := by decide +kernel
theorem d_M_takeHead_131 : decode b_M_takeHead 131 = .ok (.ldc2_w 131, 3) := by decide +kernel
theorem d_M_takeHead_134 : decode b_M_takeHead 134 = .ok (.invokestatic 97, 3) := by decide +kernel
theorem d_M_takeHead_137 : decode b_M_takeHead 137 = .ok (.ireturn, 1) := by decide +kernel
abbrev b_M_takeOfNode : ByteArray := prog_10_method_21_code
abbrev y_M_takeOfNode : MethodName := ⟨"TimeFloodModel", "takeOfNode", "(I)Z"⟩
theorem m_M_takeOfNode : MWV y_M_takeOfNode b_M_takeOfNode 2 (Option.some FieldType.boolean) 1 := ⟨wd_815, wp_17, wd_9, wd_816, by decide, by decide, by decide +kernel⟩
theorem d_M_takeOfNode_0 : decode b_M_takeOfNode 0 = .ok (.aload_n 0, 1) := by decide +kernel
theorem d_M_takeOfNode_1 : decode b_M_takeOfNode 1 = .ok (.dup, 1) := by decide +kernel
theorem d_M_takeOfNode_2 : decode b_M_takeOfNode 2 = .ok (.getfield 123, 3) := by decide +kernel
theorem d_M_takeOfNode_5 : decode b_M_takeOfNode 5 = .ok (.iconst 1, 1) := by decide +kernel
theorem d_M_takeOfNode_6 : decode b_M_takeOfNode 6 = .ok (.iadd, 1) := by decide +kernel
theorem d_M_takeOfNode_7 : decode b_M_takeOfNode 7 = .ok (.putfield 123, 3) := by decide +kernel
theorem d_M_takeOfNode_10 : decode b_M_takeOfNode 10 = .ok (.aload_n 0, 1) := by decide +kernel
theorem d_M_takeOfNode_11 : decode b_M_takeOfNode 11 = .ok (.getfield 123, 3) := by decide +kernel
theorem d_M_takeOfNode_14 : decode b_M_takeOfNode 14 = .ok (.lookupswitch 68 #[(1, 26), (2, 48)], 26) := by decide +kernel
theorem d_M_takeOfNode_40 : decode b_M_takeOfNode 40 = .ok (.aload_n 0, 1) := by decide +kernel
theorem d_M_takeOfNode_41 : decode b_M_takeOfNode 41 = .ok (.getfield 65, 3) := by decide +kernel
theorem d_M_takeOfNode_44 : decode b_M_takeOfNode 44 = .ok (.aload_n 0, 1) := by decide +kernel
theorem d_M_takeOfNode_45 : decode b_M_takeOfNode 45 = .ok (.getfield 112, 3) := by decide +kernel
theorem d_M_takeOfNode_48 : decode b_M_takeOfNode 48 = .ok (.iload_n 1, 1) := by decide +kernel
theorem d_M_takeOfNode_49 : decode b_M_takeOfNode 49 = .ok (.iconst 4, 1) := by decide +kernel
theorem d_M_takeOfNode_50 : decode b_M_takeOfNode 50 = .ok (.isub, 1) := by decide +kernel
theorem d_M_takeOfNode_51 : decode b_M_takeOfNode 51 = .ok (.iastore, 1) := by decide +kernel
theorem d_M_takeOfNode_52 : decode b_M_takeOfNode 52 = .ok (.iload_n 1, 1) := by decide +kernel
theorem d_M_takeOfNode_53 : decode b_M_takeOfNode 53 = .ok (.i2l, 1) := by decide +kernel
theorem d_M_takeOfNode_54 : decode b_M_takeOfNode 54 = .ok (.lconst 0, 1) := by decide +kernel
theorem d_M_takeOfNode_55 : decode b_M_takeOfNode 55 = .ok (.ldc2_w 131, 3) := by decide +kernel
theorem d_M_takeOfNode_58 : decode b_M_takeOfNode 58 = .ok (.invokestatic 97, 3) := by decide +kernel
theorem d_M_takeOfNode_61 : decode b_M_takeOfNode 61 = .ok (.ireturn, 1) := by decide +kernel
theorem d_M_takeOfNode_62 : decode b_M_takeOfNode 62 = .ok (.aload_n 0, 1) := by decide +kernel
theorem d_M_takeOfNode_63 : decode b_M_takeOfNode 63 = .ok (.getfield 68, 3) := by decide +kernel
theorem d_M_takeOfNode_66 : decode b_M_takeOfNode 66 = .ok (.aload_n 0, 1) := by decide +kernel
theorem d_M_takeOfNode_67 : decode b_M_takeOfNode 67 = .ok (.getfield 112, 3) := by decide +kernel
theorem d_M_takeOfNode_70 : decode b_M_takeOfNode 70 = .ok (.iload_n 1, 1) := by decide +kernel
theorem d_M_takeOfNode_71 : decode b_M_takeOfNode 71 = .ok (.iastore, 1) := by decide +kernel
theorem d_M_takeOfNode_72 : decode b_M_takeOfNode 72 = .ok (.iload_n 1, 1) := by decide +kernel
theorem d_M_takeOfNode_73 : decode b_M_takeOfNode 73 = .ok (.i2l, 1) := by decide +kernel
theorem d_M_takeOfNode_74 : decode b_M_takeOfNode 74 = .ok (.lconst 0, 1) := by decide +kernel
theorem d_M_takeOfNode_75 : decode b_M_takeOfNode 75 = .ok (.ldc2_w 146, 3) := by decide +kernel
theorem d_M_takeOfNode_78 : decode b_M_takeOfNode 78 = .ok (.invokestatic 97, 3) := by decide +kernel
theorem d_M_takeOfNode_81 : decode b_M_takeOfNode 81 = .ok (.ireturn, 1) := by decide +kernel
theorem d_M_takeOfNode_82 : decode b_M_takeOfNode 82 = .ok (.aload_n 0, 1) := by decide +kernel
theorem d_M_takeOfNode_83 : decode b_M_takeOfNode 83 = .ok (.getfield 68, 3) := by decide +kernel
theorem d_M_takeOfNode_86 : decode b_M_takeOfNode 86 = .ok (.aload_n 0, 1) := by decide +kernel
theorem d_M_takeOfNode_87 : decode b_M_takeOfNode 87 = .ok (.getfield 112, 3) := by decide +kernel
theorem d_M_takeOfNode_90 : decode b_M_takeOfNode 90 = .ok (.bipush 10, 2) := by decide +kernel
theorem d_M_takeOfNode_92 : decode b_M_takeOfNode 92 = .ok (.aload_n 0, 1) := by decide +kernel
theorem d_M_takeOfNode_93 : decode b_M_takeOfNode 93 = .ok (.getfield 68, 3) := by decide +kernel
theorem d_M_takeOfNode_96 : decode b_M_takeOfNode 96 = .ok (.aload_n 0, 1) := by decide +kernel
theorem d_M_takeOfNode_97 : decode b_M_takeOfNode 97 = .ok (.getfield 112, 3) := by decide +kernel
theorem d_M_takeOfNode_100 : decode b_M_takeOfNode 100 = .ok (.iaload, 1) := by decide +kernel
theorem d_M_takeOfNode_101 : decode b_M_takeOfNode 101 = .ok (.imul, 1) := by decide +kernel
theorem d_M_takeOfNode_102 : decode b_M_takeOfNode 102 = .ok (.iload_n 1, 1) := by decide +kernel
theorem d_M_takeOfNode_103 : decode b_M_takeOfNode 103 = .ok (.iadd, 1) := by decide +kernel
theorem d_M_takeOfNode_104 : decode b_M_takeOfNode 104 = .ok (.iastore, 1) := by decide +kernel
theorem d_M_takeOfNode_105 : decode b_M_takeOfNode 105 = .ok (.iload_n 1, 1) := by decide +kernel
theorem d_M_takeOfNode_106 : decode b_M_takeOfNode 106 = .ok (.i2l, 1) := by decide +kernel
theorem d_M_takeOfNode_107 : decode b_M_takeOfNode 107 = .ok (.lconst 0, 1) := by decide +kernel
theorem d_M_takeOfNode_108 : decode b_M_takeOfNode 108 = .ok (.ldc2_w 131, 3) := by decide +kernel
theorem d_M_takeOfNode_111 : decode b_M_takeOfNode 111 = .ok (.invokestatic 97, 3) := by decide +kernel
theorem d_M_takeOfNode_114 : decode b_M_takeOfNode 114 = .ok (.ifCond .eq 17, 3) := by decide +kernel
theorem d_M_takeOfNode_117 : decode b_M_takeOfNode 117 = .ok (.aload_n 0, 1) := by decide +kernel
theorem d_M_takeOfNode_118 : decode b_M_takeOfNode 118 = .ok (.getfield 68, 3) := by decide +kernel
theorem d_M_takeOfNode_121 : decode b_M_takeOfNode 121 = .ok (.aload_n 0, 1) := by decide +kernel
theorem d_M_takeOfNode_122 : decode b_M_takeOfNode 122 = .ok (.getfield 112, 3) := by decide +kernel
theorem d_M_takeOfNode_125 : decode b_M_takeOfNode 125 = .ok (.iaload, 1) := by decide +kernel
theorem d_M_takeOfNode_126 : decode b_M_takeOfNode 126 = .ok (.bipush 63, 2) := by decide +kernel
theorem d_M_takeOfNode_128 : decode b_M_takeOfNode 128 = .ok (.if_icmp .le 5, 3) := by decide +kernel
theorem d_M_takeOfNode_131 : decode b_M_takeOfNode 131 = .ok (.iconst 0, 1) := by decide +kernel
theorem d_M_takeOfNode_132 : decode b_M_takeOfNode 132 = .ok (.ireturn, 1) := by decide +kernel
theorem d_M_takeOfNode_133 : decode b_M_takeOfNode 133 = .ok (.aload_n 0, 1) := by decide +kernel
theorem d_M_takeOfNode_134 : decode b_M_takeOfNode 134 = .ok (.dup, 1) := by decide +kernel
theorem d_M_takeOfNode_135 : decode b_M_takeOfNode 135 = .ok (.getfield 112, 3) := by decide +kernel
theorem d_M_takeOfNode_138 : decode b_M_takeOfNode 138 = .ok (.iconst 1, 1) := by decide +kernel
theorem d_M_takeOfNode_139 : decode b_M_takeOfNode 139 = .ok (.iadd, 1) := by decide +kernel
theorem d_M_takeOfNode_140 : decode b_M_takeOfNode 140 = .ok (.putfield 112, 3) := by decide +kernel
theorem d_M_takeOfNode_143 : decode b_M_takeOfNode 143 = .ok (.aload_n 0, 1) := by decide +kernel
theorem d_M_takeOfNode_144 : decode b_M_takeOfNode 144 = .ok (.iconst 0, 1) := by decide +kernel
theorem d_M_takeOfNode_145 : decode b_M_takeOfNode 145 = .ok (.putfield 143, 3) := by decide +kernel
theorem d_M_takeOfNode_148 : decode b_M_takeOfNode 148 = .ok (.iconst 1, 1) := by decide +kernel
theorem d_M_takeOfNode_149 : decode b_M_takeOfNode 149 = .ok (.ireturn, 1) := by decide +kernel
abbrev b_M_takeOfLink : ByteArray := prog_10_method_22_code
abbrev y_M_takeOfLink : MethodName := ⟨"TimeFloodModel", "takeOfLink", "(I)Z"⟩
theorem m_M_takeOfLink : MWV y_M_takeOfLink b_M_takeOfLink 3 (Option.some FieldType.boolean) 1 := ⟨wd_820, wp_18, wd_9, wd_821, by decide, by decide, by decide +kernel⟩
theorem d_M_takeOfLink_0 : decode b_M_takeOfLink 0 = .ok (.aload_n 0, 1) := by decide +kernel
theorem d_M_takeOfLink_1 : decode b_M_takeOfLink 1 = .ok (.dup, 1) := by decide +kernel
theorem d_M_takeOfLink_2 : decode b_M_takeOfLink 2 = .ok (.getfield 123, 3) := by decide +kernel
theorem d_M_takeOfLink_5 : decode b_M_takeOfLink 5 = .ok (.iconst 1, 1) := by decide +kernel
theorem d_M_takeOfLink_6 : decode b_M_takeOfLink 6 = .ok (.iadd, 1) := by decide +kernel
theorem d_M_takeOfLink_7 : decode b_M_takeOfLink 7 = .ok (.putfield 123, 3) := by decide +kernel
theorem d_M_takeOfLink_10 : decode b_M_takeOfLink 10 = .ok (.aload_n 0, 1) := by decide +kernel
theorem d_M_takeOfLink_11 : decode b_M_takeOfLink 11 = .ok (.getfield 123, 3) := by decide +kernel
theorem d_M_takeOfLink_14 : decode b_M_takeOfLink 14 = .ok (.iconst 1, 1) := by decide +kernel
theorem d_M_takeOfLink_15 : decode b_M_takeOfLink 15 = .ok (.if_icmp .ne 43, 3) := by decide +kernel
theorem d_M_takeOfLink_18 : decode b_M_takeOfLink 18 = .ok (.aload_n 0, 1) := by decide +kernel
theorem d_M_takeOfLink_19 : decode b_M_takeOfLink 19 = .ok (.getfield 71, 3) := by decide +kernel
theorem d_M_takeOfLink_22 : decode b_M_takeOfLink 22 = .ok (.aload_n 0, 1) := by decide +kernel
theorem d_M_takeOfLink_23 : decode b_M_takeOfLink 23 = .ok (.getfield 109, 3) := by decide +kernel
theorem d_M_takeOfLink_26 : decode b_M_takeOfLink 26 = .ok (.iload_n 1, 1) := by decide +kernel
theorem d_M_takeOfLink_27 : decode b_M_takeOfLink 27 = .ok (.iastore, 1) := by decide +kernel
theorem d_M_takeOfLink_28 : decode b_M_takeOfLink 28 = .ok (.iload_n 1, 1) := by decide +kernel
theorem d_M_takeOfLink_29 : decode b_M_takeOfLink 29 = .ok (.i2l, 1) := by decide +kernel
theorem d_M_takeOfLink_30 : decode b_M_takeOfLink 30 = .ok (.lconst 0, 1) := by decide +kernel
theorem d_M_takeOfLink_31 : decode b_M_takeOfLink 31 = .ok (.aload_n 0, 1) := by decide +kernel
theorem d_M_takeOfLink_32 : decode b_M_takeOfLink 32 = .ok (.getfield 112, 3) := by decide +kernel
theorem d_M_takeOfLink_35 : decode b_M_takeOfLink 35 = .ok (.iconst 1, 1) := by decide +kernel
theorem d_M_takeOfLink_36 : decode b_M_takeOfLink 36 = .ok (.isub, 1) := by decide +kernel
theorem d_M_takeOfLink_37 : decode b_M_takeOfLink 37 = .ok (.i2l, 1) := by decide +kernel
theorem d_M_takeOfLink_38 : decode b_M_takeOfLink 38 = .ok (.invokestatic 97, 3) := by decide +kernel
theorem d_M_takeOfLink_41 : decode b_M_takeOfLink 41 = .ok (.ifCond .eq 15, 3) := by decide +kernel
theorem d_M_takeOfLink_44 : decode b_M_takeOfLink 44 = .ok (.aload_n 0, 1) := by decide +kernel
theorem d_M_takeOfLink_45 : decode b_M_takeOfLink 45 = .ok (.iload_n 1, 1) := by decide +kernel
theorem d_M_takeOfLink_46 : decode b_M_takeOfLink 46 = .ok (.invokevirtual 119, 3) := by decide +kernel
theorem d_M_takeOfLink_49 : decode b_M_takeOfLink 49 = .ok (.ifCond .ne 7, 3) := by decide +kernel
theorem d_M_takeOfLink_52 : decode b_M_takeOfLink 52 = .ok (.iconst 1, 1) := by decide +kernel
theorem d_M_takeOfLink_53 : decode b_M_takeOfLink 53 = .ok (.goto 4, 3) := by decide +kernel
theorem d_M_takeOfLink_56 : decode b_M_takeOfLink 56 = .ok (.iconst 0, 1) := by decide +kernel
theorem d_M_takeOfLink_57 : decode b_M_takeOfLink 57 = .ok (.ireturn, 1) := by decide +kernel
theorem d_M_takeOfLink_58 : decode b_M_takeOfLink 58 = .ok (.aload_n 0, 1) := by decide +kernel
theorem d_M_takeOfLink_59 : decode b_M_takeOfLink 59 = .ok (.getfield 71, 3) := by decide +kernel
theorem d_M_takeOfLink_62 : decode b_M_takeOfLink 62 = .ok (.aload_n 0, 1) := by decide +kernel
theorem d_M_takeOfLink_63 : decode b_M_takeOfLink 63 = .ok (.getfield 109, 3) := by decide +kernel
theorem d_M_takeOfLink_66 : decode b_M_takeOfLink 66 = .ok (.iaload, 1) := by decide +kernel
theorem d_M_takeOfLink_67 : decode b_M_takeOfLink 67 = .ok (.istore_n 2, 1) := by decide +kernel
theorem d_M_takeOfLink_68 : decode b_M_takeOfLink 68 = .ok (.aload_n 0, 1) := by decide +kernel
theorem d_M_takeOfLink_69 : decode b_M_takeOfLink 69 = .ok (.iconst 0, 1) := by decide +kernel
theorem d_M_takeOfLink_70 : decode b_M_takeOfLink 70 = .ok (.putfield 143, 3) := by decide +kernel
theorem d_M_takeOfLink_73 : decode b_M_takeOfLink 73 = .ok (.iload_n 1, 1) := by decide +kernel
theorem d_M_takeOfLink_74 : decode b_M_takeOfLink 74 = .ok (.i2l, 1) := by decide +kernel
theorem d_M_takeOfLink_75 : decode b_M_takeOfLink 75 = .ok (.lconst 0, 1) := by decide +kernel
theorem d_M_takeOfLink_76 : decode b_M_takeOfLink 76 = .ok (.aload_n 0, 1) := by decide +kernel
theorem d_M_takeOfLink_77 : decode b_M_takeOfLink 77 = .ok (.getfield 112, 3) := by decide +kernel
theorem d_M_takeOfLink_80 : decode b_M_takeOfLink 80 = .ok (.iconst 1, 1) := by decide +kernel
theorem d_M_takeOfLink_81 : decode b_M_takeOfLink 81 = .ok (.isub, 1) := by decide +kernel
theorem d_M_takeOfLink_82 : decode b_M_takeOfLink 82 = .ok (.i2l, 1) := by decide +kernel
theorem d_M_takeOfLink_83 : decode b_M_takeOfLink 83 = .ok (.invokestatic 97, 3) := by decide +kernel
theorem d_M_takeOfLink_86 : decode b_M_takeOfLink 86 = .ok (.ifCond .eq 17, 3) := by decide +kernel
theorem d_M_takeOfLink_89 : decode b_M_takeOfLink 89 = .ok (.iload_n 1, 1) := by decide +kernel
theorem d_M_takeOfLink_90 : decode b_M_takeOfLink 90 = .ok (.iload_n 2, 1) := by decide +kernel
theorem d_M_takeOfLink_91 : decode b_M_takeOfLink 91 = .ok (.if_icmp .eq 12, 3) := by decide +kernel
theorem d_M_takeOfLink_94 : decode b_M_takeOfLink 94 = .ok (.aload_n 0, 1) := by decide +kernel
theorem d_M_takeOfLink_95 : decode b_M_takeOfLink 95 = .ok (.iload_n 2, 1) := by decide +kernel
theorem d_M_takeOfLink_96 : decode b_M_takeOfLink 96 = .ok (.iload_n 1, 1) := by decide +kernel
theorem d_M_takeOfLink_97 : decode b_M_takeOfLink 97 = .ok (.invokevirtual 115, 3) := by decide +kernel
theorem d_M_takeOfLink_100 : decode b_M_takeOfLink 100 = .ok (.ifCond .eq 5, 3) := by decide +kernel
theorem d_M_takeOfLink_103 : decode b_M_takeOfLink 103 = .ok (.iconst 0, 1) := by decide +kernel
theorem d_M_takeOfLink_104 : decode b_M_takeOfLink 104 = .ok (.ireturn, 1) := by decide +kernel
theorem d_M_takeOfLink_105 : decode b_M_takeOfLink 105 = .ok (.aload_n 0, 1) := by decide +kernel
theorem d_M_takeOfLink_106 : decode b_M_takeOfLink 106 = .ok (.getfield 74, 3) := by decide +kernel
theorem d_M_takeOfLink_109 : decode b_M_takeOfLink 109 = .ok (.aload_n 0, 1) := by decide +kernel
theorem d_M_takeOfLink_110 : decode b_M_takeOfLink 110 = .ok (.getfield 109, 3) := by decide +kernel
theorem d_M_takeOfLink_113 : decode b_M_takeOfLink 113 = .ok (.iload_n 1, 1) := by decide +kernel
theorem d_M_takeOfLink_114 : decode b_M_takeOfLink 114 = .ok (.iastore, 1) := by decide +kernel
theorem d_M_takeOfLink_115 : decode b_M_takeOfLink 115 = .ok (.aload_n 0, 1) := by decide +kernel
theorem d_M_takeOfLink_116 : decode b_M_takeOfLink 116 = .ok (.dup, 1) := by decide +kernel
theorem d_M_takeOfLink_117 : decode b_M_takeOfLink 117 = .ok (.getfield 109, 3) := by decide +kernel
theorem d_M_takeOfLink_120 : decode b_M_takeOfLink 120 = .ok (.iconst 1, 1) := by decide +kernel
theorem d_M_takeOfLink_121 : decode b_M_takeOfLink 121 = .ok (.iadd, 1) := by decide +kernel
theorem d_M_takeOfLink_122 : decode b_M_takeOfLink 122 = .ok (.putfield 109, 3) := by decide +kernel
theorem d_M_takeOfLink_125 : decode b_M_takeOfLink 125 = .ok (.iconst 1, 1) := by decide +kernel
theorem d_M_takeOfLink_126 : decode b_M_takeOfLink 126 = .ok (.ireturn, 1) := by decide +kernel
abbrev b_M_take : ByteArray := prog_10_method_23_code
abbrev y_M_take : MethodName := ⟨"TimeFloodModel", "take", "(I)Z"⟩
theorem m_M_take : MWV y_M_take b_M_take 3 (Option.some FieldType.boolean) 1 := ⟨wd_803, wp_15, wd_9, wd_804, by decide, by decide, by decide +kernel⟩
theorem d_M_take_0 : decode b_M_take 0 = .ok (.iload_n 1, 1) := by decide +kernel
theorem d_M_take_1 : decode b_M_take 1 = .ok (.bipush 48, 2) := by decide +kernel
theorem d_M_take_3 : decode b_M_take 3 = .ok (.isub, 1) := by decide +kernel
theorem d_M_take_4 : decode b_M_take 4 = .ok (.istore_n 2, 1) := by decide +kernel
theorem d_M_take_5 : decode b_M_take 5 = .ok (.aload_n 0, 1) := by decide +kernel
theorem d_M_take_6 : decode b_M_take 6 = .ok (.getfield 143, 3) := by decide +kernel
theorem d_M_take_9 : decode b_M_take 9 = .ok (.lookupswitch 53 #[(70, 35), (107, 47), (110, 41)], 35) := by decide +kernel
theorem d_M_take_44 : decode b_M_take 44 = .ok (.aload_n 0, 1) := by decide +kernel
theorem d_M_take_45 : decode b_M_take 45 = .ok (.iload_n 2, 1) := by decide +kernel
theorem d_M_take_46 : decode b_M_take 46 = .ok (.invokevirtual 148, 3) := by decide +kernel
theorem d_M_take_49 : decode b_M_take 49 = .ok (.ireturn, 1) := by decide +kernel
theorem d_M_take_50 : decode b_M_take 50 = .ok (.aload_n 0, 1) := by decide +kernel
theorem d_M_take_51 : decode b_M_take 51 = .ok (.iload_n 2, 1) := by decide +kernel
theorem d_M_take_52 : decode b_M_take 52 = .ok (.invokevirtual 151, 3) := by decide +kernel
theorem d_M_take_55 : decode b_M_take 55 = .ok (.ireturn, 1) := by decide +kernel
theorem d_M_take_56 : decode b_M_take 56 = .ok (.aload_n 0, 1) := by decide +kernel
theorem d_M_take_57 : decode b_M_take 57 = .ok (.iload_n 2, 1) := by decide +kernel
theorem d_M_take_58 : decode b_M_take 58 = .ok (.invokevirtual 154, 3) := by decide +kernel
theorem d_M_take_61 : decode b_M_take 61 = .ok (.ireturn, 1) := by decide +kernel
theorem d_M_take_62 : decode b_M_take 62 = .ok (.aload_n 0, 1) := by decide +kernel
theorem d_M_take_63 : decode b_M_take 63 = .ok (.iload_n 1, 1) := by decide +kernel
theorem d_M_take_64 : decode b_M_take 64 = .ok (.putfield 143, 3) := by decide +kernel
theorem d_M_take_67 : decode b_M_take 67 = .ok (.aload_n 0, 1) := by decide +kernel
theorem d_M_take_68 : decode b_M_take 68 = .ok (.iconst 0, 1) := by decide +kernel
theorem d_M_take_69 : decode b_M_take 69 = .ok (.putfield 123, 3) := by decide +kernel
theorem d_M_take_72 : decode b_M_take 72 = .ok (.iload_n 1, 1) := by decide +kernel
theorem d_M_take_73 : decode b_M_take 73 = .ok (.bipush 110, 2) := by decide +kernel
theorem d_M_take_75 : decode b_M_take 75 = .ok (.if_icmp .ne 11, 3) := by decide +kernel
theorem d_M_take_78 : decode b_M_take 78 = .ok (.aload_n 0, 1) := by decide +kernel
theorem d_M_take_79 : decode b_M_take 79 = .ok (.getfield 112, 3) := by decide +kernel
theorem d_M_take_82 : decode b_M_take 82 = .ok (.iconst 5, 1) := by decide +kernel
theorem d_M_take_83 : decode b_M_take 83 = .ok (.if_icmp .lt 16, 3) := by decide +kernel
theorem d_M_take_86 : decode b_M_take 86 = .ok (.iload_n 1, 1) := by decide +kernel
theorem d_M_take_87 : decode b_M_take 87 = .ok (.bipush 107, 2) := by decide +kernel
theorem d_M_take_89 : decode b_M_take 89 = .ok (.if_icmp .ne 14, 3) := by decide +kernel
theorem d_M_take_92 : decode b_M_take 92 = .ok (.aload_n 0, 1) := by decide +kernel
theorem d_M_take_93 : decode b_M_take 93 = .ok (.invokevirtual 157, 3) := by decide +kernel
theorem d_M_take_96 : decode b_M_take 96 = .ok (.ifCond .eq 7, 3) := by decide +kernel
theorem d_M_take_99 : decode b_M_take 99 = .ok (.iconst 1, 1) := by decide +kernel
theorem d_M_take_100 : decode b_M_take 100 = .ok (.goto 4, 3) := by decide +kernel
theorem d_M_take_103 : decode b_M_take 103 = .ok (.iconst 0, 1) := by decide +kernel
theorem d_M_take_104 : decode b_M_take 104 = .ok (.ireturn, 1) := by decide +kernel
abbrev b_M_readText : ByteArray := prog_10_method_24_code
abbrev y_M_readText : MethodName := ⟨"TimeFloodModel", "readText", "()I"⟩
theorem m_M_readText : MWV y_M_readText b_M_readText 2 (Option.some FieldType.int) 0 := ⟨wd_799, wp_14, wd_9, wd_800, by decide, by decide, by decide +kernel⟩
theorem d_M_readText_0 : decode b_M_readText 0 = .ok (.aload_n 0, 1) := by decide +kernel
theorem d_M_readText_1 : decode b_M_readText 1 = .ok (.iconst 0, 1) := by decide +kernel
theorem d_M_readText_2 : decode b_M_readText 2 = .ok (.putfield 112, 3) := by decide +kernel
theorem d_M_readText_5 : decode b_M_readText 5 = .ok (.aload_n 0, 1) := by decide +kernel
theorem d_M_readText_6 : decode b_M_readText 6 = .ok (.iconst 0, 1) := by decide +kernel
theorem d_M_readText_7 : decode b_M_readText 7 = .ok (.putfield 109, 3) := by decide +kernel
theorem d_M_readText_10 : decode b_M_readText 10 = .ok (.aload_n 0, 1) := by decide +kernel
theorem d_M_readText_11 : decode b_M_readText 11 = .ok (.bipush 70, 2) := by decide +kernel
theorem d_M_readText_13 : decode b_M_readText 13 = .ok (.putfield 143, 3) := by decide +kernel
theorem d_M_readText_16 : decode b_M_readText 16 = .ok (.aload_n 0, 1) := by decide +kernel
theorem d_M_readText_17 : decode b_M_readText 17 = .ok (.iconst 0, 1) := by decide +kernel
theorem d_M_readText_18 : decode b_M_readText 18 = .ok (.putfield 123, 3) := by decide +kernel
theorem d_M_readText_21 : decode b_M_readText 21 = .ok (.aload_n 0, 1) := by decide +kernel
theorem d_M_readText_22 : decode b_M_readText 22 = .ok (.getfield 106, 3) := by decide +kernel
theorem d_M_readText_25 : decode b_M_readText 25 = .ok (.ifCond .eq 14, 3) := by decide +kernel
theorem d_M_readText_28 : decode b_M_readText 28 = .ok (.aload_n 0, 1) := by decide +kernel
theorem d_M_readText_29 : decode b_M_readText 29 = .ok (.getfield 7, 3) := by decide +kernel
theorem d_M_readText_32 : decode b_M_readText 32 = .ok (.iconst 0, 1) := by decide +kernel
theorem d_M_readText_33 : decode b_M_readText 33 = .ok (.iaload, 1) := by decide +kernel
theorem d_M_readText_34 : decode b_M_readText 34 = .ok (.bipush 70, 2) := by decide +kernel
theorem d_M_readText_36 : decode b_M_readText 36 = .ok (.if_icmp .eq 5, 3) := by decide +kernel
theorem d_M_readText_39 : decode b_M_readText 39 = .ok (.iconst 0, 1) := by decide +kernel
theorem d_M_readText_40 : decode b_M_readText 40 = .ok (.ireturn, 1) := by decide +kernel
theorem d_M_readText_41 : decode b_M_readText 41 = .ok (.iconst 1, 1) := by decide +kernel
theorem d_M_readText_42 : decode b_M_readText 42 = .ok (.istore_n 1, 1) := by decide +kernel
theorem d_M_readText_43 : decode b_M_readText 43 = .ok (.iload_n 1, 1) := by decide +kernel
theorem d_M_readText_44 : decode b_M_readText 44 = .ok (.aload_n 0, 1) := by decide +kernel
theorem d_M_readText_45 : decode b_M_readText 45 = .ok (.getfield 106, 3) := by decide +kernel
theorem d_M_readText_48 : decode b_M_readText 48 = .ok (.if_icmp .ge 24, 3) := by decide +kernel
theorem d_M_readText_51 : decode b_M_readText 51 = .ok (.aload_n 0, 1) := by decide +kernel
theorem d_M_readText_52 : decode b_M_readText 52 = .ok (.aload_n 0, 1) := by decide +kernel
theorem d_M_readText_53 : decode b_M_readText 53 = .ok (.getfield 7, 3) := by decide +kernel
theorem d_M_readText_56 : decode b_M_readText 56 = .ok (.iload_n 1, 1) := by decide +kernel
theorem d_M_readText_57 : decode b_M_readText 57 = .ok (.iaload, 1) := by decide +kernel
theorem d_M_readText_58 : decode b_M_readText 58 = .ok (.invokevirtual 161, 3) := by decide +kernel
theorem d_M_readText_61 : decode b_M_readText 61 = .ok (.ifCond .ne 5, 3) := by decide +kernel
theorem d_M_readText_64 : decode b_M_readText 64 = .ok (.iload_n 1, 1) := by decide +kernel
theorem d_M_readText_65 : decode b_M_readText 65 = .ok (.ireturn, 1) := by decide +kernel
theorem d_M_readText_66 : decode b_M_readText 66 = .ok (.iinc 1 1, 3) := by decide +kernel
theorem d_M_readText_69 : decode b_M_readText 69 = .ok (.goto (-26), 3) := by decide +kernel
theorem d_M_readText_72 : decode b_M_readText 72 = .ok (.aload_n 0, 1) := by decide +kernel
theorem d_M_readText_73 : decode b_M_readText 73 = .ok (.getfield 143, 3) := by decide +kernel
theorem d_M_readText_76 : decode b_M_readText 76 = .ok (.ifCond .ne 8, 3) := by decide +kernel
theorem d_M_readText_79 : decode b_M_readText 79 = .ok (.bipush (-9), 2) := by decide +kernel
theorem d_M_readText_81 : decode b_M_readText 81 = .ok (.goto 7, 3) := by decide +kernel
theorem d_M_readText_84 : decode b_M_readText 84 = .ok (.aload_n 0, 1) := by decide +kernel
theorem d_M_readText_85 : decode b_M_readText 85 = .ok (.getfield 106, 3) := by decide +kernel
theorem d_M_readText_88 : decode b_M_readText 88 = .ok (.ireturn, 1) := by decide +kernel
abbrev b_M_fault : ByteArray := prog_10_method_25_code
abbrev y_M_fault : MethodName := ⟨"TimeFloodModel", "fault", "()I"⟩
theorem m_M_fault : MWV y_M_fault b_M_fault 1 (Option.some FieldType.int) 0 := ⟨wd_794, wd_795, wd_9, wd_796, by decide, by decide, by decide +kernel⟩
theorem d_M_fault_0 : decode b_M_fault 0 = .ok (.aload_n 0, 1) := by decide +kernel
theorem d_M_fault_1 : decode b_M_fault 1 = .ok (.invokevirtual 164, 3) := by decide +kernel
theorem d_M_fault_4 : decode b_M_fault 4 = .ok (.ireturn, 1) := by decide +kernel
abbrev b_M_first : ByteArray := prog_10_method_26_code
abbrev y_M_first : MethodName := ⟨"TimeFloodModel", "first", "([II)V"⟩
theorem m_M_first : MWS y_M_first b_M_first 3 none 2 := ⟨wd_839, wd_9, wd_840, by decide, by decide, by decide +kernel⟩
theorem d_M_first_0 : decode b_M_first 0 = .ok (.bipush 19, 2) := by decide +kernel
theorem d_M_first_2 : decode b_M_first 2 = .ok (.iload_n 1, 1) := by decide +kernel
theorem d_M_first_3 : decode b_M_first 3 = .ok (.imul, 1) := by decide +kernel
theorem d_M_first_4 : decode b_M_first 4 = .ok (.istore_n 2, 1) := by decide +kernel
theorem d_M_first_5 : decode b_M_first 5 = .ok (.aload_n 0, 1) := by decide +kernel
theorem d_M_first_6 : decode b_M_first 6 = .ok (.iload_n 2, 1) := by decide +kernel
theorem d_M_first_7 : decode b_M_first 7 = .ok (.iconst 0, 1) := by decide +kernel
theorem d_M_first_8 : decode b_M_first 8 = .ok (.iadd, 1) := by decide +kernel
theorem d_M_first_9 : decode b_M_first 9 = .ok (.iconst 1, 1) := by decide +kernel
theorem d_M_first_10 : decode b_M_first 10 = .ok (.iastore, 1) := by decide +kernel
theorem d_M_first_11 : decode b_M_first 11 = .ok (.aload_n 0, 1) := by decide +kernel
theorem d_M_first_12 : decode b_M_first 12 = .ok (.iload_n 2, 1) := by decide +kernel
theorem d_M_first_13 : decode b_M_first 13 = .ok (.iconst 2, 1) := by decide +kernel
theorem d_M_first_14 : decode b_M_first 14 = .ok (.iadd, 1) := by decide +kernel
theorem d_M_first_15 : decode b_M_first 15 = .ok (.bipush (-9), 2) := by decide +kernel
theorem d_M_first_17 : decode b_M_first 17 = .ok (.iastore, 1) := by decide +kernel
theorem d_M_first_18 : decode b_M_first 18 = .ok (.aload_n 0, 1) := by decide +kernel
theorem d_M_first_19 : decode b_M_first 19 = .ok (.iload_n 2, 1) := by decide +kernel
theorem d_M_first_20 : decode b_M_first 20 = .ok (.iconst 3, 1) := by decide +kernel
theorem d_M_first_21 : decode b_M_first 21 = .ok (.iadd, 1) := by decide +kernel
theorem d_M_first_22 : decode b_M_first 22 = .ok (.iconst 0, 1) := by decide +kernel
theorem d_M_first_23 : decode b_M_first 23 = .ok (.iastore, 1) := by decide +kernel
theorem d_M_first_24 : decode b_M_first 24 = .ok (.aload_n 0, 1) := by decide +kernel
theorem d_M_first_25 : decode b_M_first 25 = .ok (.iload_n 2, 1) := by decide +kernel
theorem d_M_first_26 : decode b_M_first 26 = .ok (.iconst 4, 1) := by decide +kernel
theorem d_M_first_27 : decode b_M_first 27 = .ok (.iadd, 1) := by decide +kernel
theorem d_M_first_28 : decode b_M_first 28 = .ok (.iconst 0, 1) := by decide +kernel
theorem d_M_first_29 : decode b_M_first 29 = .ok (.iastore, 1) := by decide +kernel
theorem d_M_first_30 : decode b_M_first 30 = .ok (.aload_n 0, 1) := by decide +kernel
theorem d_M_first_31 : decode b_M_first 31 = .ok (.iload_n 2, 1) := by decide +kernel
theorem d_M_first_32 : decode b_M_first 32 = .ok (.iconst 5, 1) := by decide +kernel
theorem d_M_first_33 : decode b_M_first 33 = .ok (.iadd, 1) := by decide +kernel
theorem d_M_first_34 : decode b_M_first 34 = .ok (.iconst 0, 1) := by decide +kernel
theorem d_M_first_35 : decode b_M_first 35 = .ok (.iastore, 1) := by decide +kernel
theorem d_M_first_36 : decode b_M_first 36 = .ok (.aload_n 0, 1) := by decide +kernel
theorem d_M_first_37 : decode b_M_first 37 = .ok (.iload_n 2, 1) := by decide +kernel
theorem d_M_first_38 : decode b_M_first 38 = .ok (.bipush 6, 2) := by decide +kernel
theorem d_M_first_40 : decode b_M_first 40 = .ok (.iadd, 1) := by decide +kernel
theorem d_M_first_41 : decode b_M_first 41 = .ok (.iconst 0, 1) := by decide +kernel
theorem d_M_first_42 : decode b_M_first 42 = .ok (.iastore, 1) := by decide +kernel
theorem d_M_first_43 : decode b_M_first 43 = .ok (.return_, 1) := by decide +kernel
abbrev b_M_net : ByteArray := prog_10_method_27_code
abbrev y_M_net : MethodName := ⟨"TimeFloodModel", "net", "()I"⟩
theorem m_M_net : MWV y_M_net b_M_net 2 (Option.some FieldType.int) 0 := ⟨wd_835, wd_836, wd_9, wd_837, by decide, by decide, by decide +kernel⟩
theorem d_M_net_0 : decode b_M_net 0 = .ok (.aload_n 0, 1) := by decide +kernel
theorem d_M_net_1 : decode b_M_net 1 = .ok (.invokevirtual 164, 3) := by decide +kernel
theorem d_M_net_4 : decode b_M_net 4 = .ok (.bipush (-9), 2) := by decide +kernel
theorem d_M_net_6 : decode b_M_net 6 = .ok (.if_icmp .eq 6, 3) := by decide +kernel
theorem d_M_net_9 : decode b_M_net 9 = .ok (.bipush (-3), 2) := by decide +kernel
theorem d_M_net_11 : decode b_M_net 11 = .ok (.ireturn, 1) := by decide +kernel
theorem d_M_net_12 : decode b_M_net 12 = .ok (.aload_n 0, 1) := by decide +kernel
theorem d_M_net_13 : decode b_M_net 13 = .ok (.aload_n 0, 1) := by decide +kernel
theorem d_M_net_14 : decode b_M_net 14 = .ok (.getfield 126, 3) := by decide +kernel
theorem d_M_net_17 : decode b_M_net 17 = .ok (.putfield 77, 3) := by decide +kernel
theorem d_M_net_20 : decode b_M_net 20 = .ok (.aload_n 0, 1) := by decide +kernel
theorem d_M_net_21 : decode b_M_net 21 = .ok (.aload_n 0, 1) := by decide +kernel
theorem d_M_net_22 : decode b_M_net 22 = .ok (.getfield 137, 3) := by decide +kernel
theorem d_M_net_25 : decode b_M_net 25 = .ok (.putfield 81, 3) := by decide +kernel
theorem d_M_net_28 : decode b_M_net 28 = .ok (.aload_n 0, 1) := by decide +kernel
theorem d_M_net_29 : decode b_M_net 29 = .ok (.aload_n 0, 1) := by decide +kernel
theorem d_M_net_30 : decode b_M_net 30 = .ok (.getfield 140, 3) := by decide +kernel
theorem d_M_net_33 : decode b_M_net 33 = .ok (.putfield 168, 3) := by decide +kernel
theorem d_M_net_36 : decode b_M_net 36 = .ok (.aload_n 0, 1) := by decide +kernel
theorem d_M_net_37 : decode b_M_net 37 = .ok (.aload_n 0, 1) := by decide +kernel
theorem d_M_net_38 : decode b_M_net 38 = .ok (.getfield 112, 3) := by decide +kernel
theorem d_M_net_41 : decode b_M_net 41 = .ok (.putfield 94, 3) := by decide +kernel
theorem d_M_net_44 : decode b_M_net 44 = .ok (.aload_n 0, 1) := by decide +kernel
theorem d_M_net_45 : decode b_M_net 45 = .ok (.aload_n 0, 1) := by decide +kernel
theorem d_M_net_46 : decode b_M_net 46 = .ok (.getfield 109, 3) := by decide +kernel
theorem d_M_net_49 : decode b_M_net 49 = .ok (.putfield 101, 3) := by decide +kernel
theorem d_M_net_52 : decode b_M_net 52 = .ok (.iconst 0, 1) := by decide +kernel
theorem d_M_net_53 : decode b_M_net 53 = .ok (.istore_n 1, 1) := by decide +kernel
theorem d_M_net_54 : decode b_M_net 54 = .ok (.iload_n 1, 1) := by decide +kernel
theorem d_M_net_55 : decode b_M_net 55 = .ok (.aload_n 0, 1) := by decide +kernel
theorem d_M_net_56 : decode b_M_net 56 = .ok (.getfield 94, 3) := by decide +kernel
theorem d_M_net_59 : decode b_M_net 59 = .ok (.if_icmp .ge 46, 3) := by decide +kernel
theorem d_M_net_62 : decode b_M_net 62 = .ok (.aload_n 0, 1) := by decide +kernel
theorem d_M_net_63 : decode b_M_net 63 = .ok (.getfield 22, 3) := by decide +kernel
theorem d_M_net_66 : decode b_M_net 66 = .ok (.iload_n 1, 1) := by decide +kernel
theorem d_M_net_67 : decode b_M_net 67 = .ok (.invokestatic 171, 3) := by decide +kernel
theorem d_M_net_70 : decode b_M_net 70 = .ok (.aload_n 0, 1) := by decide +kernel
theorem d_M_net_71 : decode b_M_net 71 = .ok (.getfield 22, 3) := by decide +kernel
theorem d_M_net_74 : decode b_M_net 74 = .ok (.bipush 19, 2) := by decide +kernel
theorem d_M_net_76 : decode b_M_net 76 = .ok (.iload_n 1, 1) := by decide +kernel
theorem d_M_net_77 : decode b_M_net 77 = .ok (.imul, 1) := by decide +kernel
theorem d_M_net_78 : decode b_M_net 78 = .ok (.iconst 1, 1) := by decide +kernel
theorem d_M_net_79 : decode b_M_net 79 = .ok (.iadd, 1) := by decide +kernel
theorem d_M_net_80 : decode b_M_net 80 = .ok (.aload_n 0, 1) := by decide +kernel
theorem d_M_net_81 : decode b_M_net 81 = .ok (.getfield 65, 3) := by decide +kernel
theorem d_M_net_84 : decode b_M_net 84 = .ok (.iload_n 1, 1) := by decide +kernel
theorem d_M_net_85 : decode b_M_net 85 = .ok (.iaload, 1) := by decide +kernel
theorem d_M_net_86 : decode b_M_net 86 = .ok (.iastore, 1) := by decide +kernel
theorem d_M_net_87 : decode b_M_net 87 = .ok (.aload_n 0, 1) := by decide +kernel
theorem d_M_net_88 : decode b_M_net 88 = .ok (.getfield 13, 3) := by decide +kernel
theorem d_M_net_91 : decode b_M_net 91 = .ok (.iload_n 1, 1) := by decide +kernel
theorem d_M_net_92 : decode b_M_net 92 = .ok (.aload_n 0, 1) := by decide +kernel
theorem d_M_net_93 : decode b_M_net 93 = .ok (.getfield 68, 3) := by decide +kernel
theorem d_M_net_96 : decode b_M_net 96 = .ok (.iload_n 1, 1) := by decide +kernel
theorem d_M_net_97 : decode b_M_net 97 = .ok (.iaload, 1) := by decide +kernel
theorem d_M_net_98 : decode b_M_net 98 = .ok (.iastore, 1) := by decide +kernel
theorem d_M_net_99 : decode b_M_net 99 = .ok (.iinc 1 1, 3) := by decide +kernel
theorem d_M_net_102 : decode b_M_net 102 = .ok (.goto (-48), 3) := by decide +kernel
theorem d_M_net_105 : decode b_M_net 105 = .ok (.iconst 0, 1) := by decide +kernel
theorem d_M_net_106 : decode b_M_net 106 = .ok (.istore_n 1, 1) := by decide +kernel
theorem d_M_net_107 : decode b_M_net 107 = .ok (.iload_n 1, 1) := by decide +kernel
theorem d_M_net_108 : decode b_M_net 108 = .ok (.bipush 7, 2) := by decide +kernel
theorem d_M_net_110 : decode b_M_net 110 = .ok (.if_icmp .ge 67, 3) := by decide +kernel
theorem d_M_net_113 : decode b_M_net 113 = .ok (.aload_n 0, 1) := by decide +kernel
theorem d_M_net_114 : decode b_M_net 114 = .ok (.getfield 22, 3) := by decide +kernel
theorem d_M_net_117 : decode b_M_net 117 = .ok (.bipush 95, 2) := by decide +kernel
theorem d_M_net_119 : decode b_M_net 119 = .ok (.iload_n 1, 1) := by decide +kernel
theorem d_M_net_120 : decode b_M_net 120 = .ok (.iadd, 1) := by decide +kernel
theorem d_M_net_121 : decode b_M_net 121 = .ok (.iconst 0, 1) := by decide +kernel
theorem d_M_net_122 : decode b_M_net 122 = .ok (.iastore, 1) := by decide +kernel
theorem d_M_net_123 : decode b_M_net 123 = .ok (.aload_n 0, 1) := by decide +kernel
theorem d_M_net_124 : decode b_M_net 124 = .ok (.getfield 16, 3) := by decide +kernel
theorem d_M_net_127 : decode b_M_net 127 = .ok (.iload_n 1, 1) := by decide +kernel
theorem d_M_net_128 : decode b_M_net 128 = .ok (.iload_n 1, 1) := by decide +kernel
theorem d_M_net_129 : decode b_M_net 129 = .ok (.aload_n 0, 1) := by decide +kernel
theorem d_M_net_130 : decode b_M_net 130 = .ok (.getfield 101, 3) := by decide +kernel
theorem d_M_net_133 : decode b_M_net 133 = .ok (.if_icmp .ge 12, 3) := by decide +kernel
theorem d_M_net_136 : decode b_M_net 136 = .ok (.aload_n 0, 1) := by decide +kernel
theorem d_M_net_137 : decode b_M_net 137 = .ok (.getfield 71, 3) := by decide +kernel
theorem d_M_net_140 : decode b_M_net 140 = .ok (.iload_n 1, 1) := by decide +kernel
theorem d_M_net_141 : decode b_M_net 141 = .ok (.iaload, 1) := by decide +kernel
theorem d_M_net_142 : decode b_M_net 142 = .ok (.goto 4, 3) := by decide +kernel
theorem d_M_net_145 : decode b_M_net 145 = .ok (.iconst 0, 1) := by decide +kernel
theorem d_M_net_146 : decode b_M_net 146 = .ok (.iastore, 1) := by decide +kernel
theorem d_M_net_147 : decode b_M_net 147 = .ok (.aload_n 0, 1) := by decide +kernel
theorem d_M_net_148 : decode b_M_net 148 = .ok (.getfield 19, 3) := by decide +kernel
theorem d_M_net_151 : decode b_M_net 151 = .ok (.iload_n 1, 1) := by decide +kernel
theorem d_M_net_152 : decode b_M_net 152 = .ok (.iload_n 1, 1) := by decide +kernel
theorem d_M_net_153 : decode b_M_net 153 = .ok (.aload_n 0, 1) := by decide +kernel
theorem d_M_net_154 : decode b_M_net 154 = .ok (.getfield 101, 3) := by decide +kernel
theorem d_M_net_157 : decode b_M_net 157 = .ok (.if_icmp .ge 12, 3) := by decide +kernel
theorem d_M_net_160 : decode b_M_net 160 = .ok (.aload_n 0, 1) := by decide +kernel
theorem d_M_net_161 : decode b_M_net 161 = .ok (.getfield 74, 3) := by decide +kernel
theorem d_M_net_164 : decode b_M_net 164 = .ok (.iload_n 1, 1) := by decide +kernel
theorem d_M_net_165 : decode b_M_net 165 = .ok (.iaload, 1) := by decide +kernel
theorem d_M_net_166 : decode b_M_net 166 = .ok (.goto 4, 3) := by decide +kernel
theorem d_M_net_169 : decode b_M_net 169 = .ok (.iconst 0, 1) := by decide +kernel
theorem d_M_net_170 : decode b_M_net 170 = .ok (.iastore, 1) := by decide +kernel
theorem d_M_net_171 : decode b_M_net 171 = .ok (.iinc 1 1, 3) := by decide +kernel
theorem d_M_net_174 : decode b_M_net 174 = .ok (.goto (-67), 3) := by decide +kernel
theorem d_M_net_177 : decode b_M_net 177 = .ok (.aload_n 0, 1) := by decide +kernel
theorem d_M_net_178 : decode b_M_net 178 = .ok (.getfield 22, 3) := by decide +kernel
theorem d_M_net_181 : decode b_M_net 181 = .ok (.bipush 102, 2) := by decide +kernel
theorem d_M_net_183 : decode b_M_net 183 = .ok (.iconst 0, 1) := by decide +kernel
theorem d_M_net_184 : decode b_M_net 184 = .ok (.iastore, 1) := by decide +kernel
theorem d_M_net_185 : decode b_M_net 185 = .ok (.aload_n 0, 1) := by decide +kernel
theorem d_M_net_186 : decode b_M_net 186 = .ok (.iconst 0, 1) := by decide +kernel
theorem d_M_net_187 : decode b_M_net 187 = .ok (.putfield 175, 3) := by decide +kernel
theorem d_M_net_190 : decode b_M_net 190 = .ok (.aload_n 0, 1) := by decide +kernel
theorem d_M_net_191 : decode b_M_net 191 = .ok (.getfield 34, 3) := by decide +kernel
theorem d_M_net_194 : decode b_M_net 194 = .ok (.iconst 0, 1) := by decide +kernel
theorem d_M_net_195 : decode b_M_net 195 = .ok (.iconst 0, 1) := by decide +kernel
theorem d_M_net_196 : decode b_M_net 196 = .ok (.bastore, 1) := by decide +kernel
theorem d_M_net_197 : decode b_M_net 197 = .ok (.aload_n 0, 1) := by decide +kernel
theorem d_M_net_198 : decode b_M_net 198 = .ok (.getfield 34, 3) := by decide +kernel
theorem d_M_net_201 : decode b_M_net 201 = .ok (.iconst 1, 1) := by decide +kernel
theorem d_M_net_202 : decode b_M_net 202 = .ok (.iconst 0, 1) := by decide +kernel
theorem d_M_net_203 : decode b_M_net 203 = .ok (.bastore, 1) := by decide +kernel
theorem d_M_net_204 : decode b_M_net 204 = .ok (.aload_n 0, 1) := by decide +kernel
theorem d_M_net_205 : decode b_M_net 205 = .ok (.getfield 94, 3) := by decide +kernel
theorem d_M_net_208 : decode b_M_net 208 = .ok (.ireturn, 1) := by decide +kernel
abbrev b_M_clockOf : ByteArray := prog_10_method_28_code
abbrev y_M_clockOf : MethodName := ⟨"TimeFloodModel", "clockOf", "([II)I"⟩
theorem m_M_clockOf : MWV y_M_clockOf b_M_clockOf 5 (Option.some FieldType.int) 2 := ⟨wd_866, wp_26, wd_9, wd_867, by decide, by decide, by decide +kernel⟩
theorem d_M_clockOf_0 : decode b_M_clockOf 0 = .ok (.aload_n 1, 1) := by decide +kernel
theorem d_M_clockOf_1 : decode b_M_clockOf 1 = .ok (.bipush 102, 2) := by decide +kernel
theorem d_M_clockOf_3 : decode b_M_clockOf 3 = .ok (.iaload, 1) := by decide +kernel
theorem d_M_clockOf_4 : decode b_M_clockOf 4 = .ok (.i2l, 1) := by decide +kernel
theorem d_M_clockOf_5 : decode b_M_clockOf 5 = .ok (.lstore_n 3, 1) := by decide +kernel
theorem d_M_clockOf_6 : decode b_M_clockOf 6 = .ok (.ldc2_w 178, 3) := by decide +kernel
theorem d_M_clockOf_9 : decode b_M_clockOf 9 = .ok (.aload_n 0, 1) := by decide +kernel
theorem d_M_clockOf_10 : decode b_M_clockOf 10 = .ok (.getfield 13, 3) := by decide +kernel
theorem d_M_clockOf_13 : decode b_M_clockOf 13 = .ok (.iload_n 2, 1) := by decide +kernel
theorem d_M_clockOf_14 : decode b_M_clockOf 14 = .ok (.iaload, 1) := by decide +kernel
theorem d_M_clockOf_15 : decode b_M_clockOf 15 = .ok (.i2l, 1) := by decide +kernel
theorem d_M_clockOf_16 : decode b_M_clockOf 16 = .ok (.lmul, 1) := by decide +kernel
theorem d_M_clockOf_17 : decode b_M_clockOf 17 = .ok (.lload_n 3, 1) := by decide +kernel
theorem d_M_clockOf_18 : decode b_M_clockOf 18 = .ok (.ladd, 1) := by decide +kernel
theorem d_M_clockOf_19 : decode b_M_clockOf 19 = .ok (.lload_n 3, 1) := by decide +kernel
theorem d_M_clockOf_20 : decode b_M_clockOf 20 = .ok (.aload_n 1, 1) := by decide +kernel
theorem d_M_clockOf_21 : decode b_M_clockOf 21 = .ok (.bipush 19, 2) := by decide +kernel
theorem d_M_clockOf_23 : decode b_M_clockOf 23 = .ok (.iload_n 2, 1) := by decide +kernel
theorem d_M_clockOf_24 : decode b_M_clockOf 24 = .ok (.imul, 1) := by decide +kernel
theorem d_M_clockOf_25 : decode b_M_clockOf 25 = .ok (.iconst 1, 1) := by decide +kernel
theorem d_M_clockOf_26 : decode b_M_clockOf 26 = .ok (.iadd, 1) := by decide +kernel
theorem d_M_clockOf_27 : decode b_M_clockOf 27 = .ok (.iaload, 1) := by decide +kernel
theorem d_M_clockOf_28 : decode b_M_clockOf 28 = .ok (.i2l, 1) := by decide +kernel
theorem d_M_clockOf_29 : decode b_M_clockOf 29 = .ok (.lmul, 1) := by decide +kernel
theorem d_M_clockOf_30 : decode b_M_clockOf 30 = .ok (.ldc2_w 180, 3) := by decide +kernel
theorem d_M_clockOf_33 : decode b_M_clockOf 33 = .ok (.invokestatic 86, 3) := by decide +kernel
theorem d_M_clockOf_36 : decode b_M_clockOf 36 = .ok (.ladd, 1) := by decide +kernel
theorem d_M_clockOf_37 : decode b_M_clockOf 37 = .ok (.invokestatic 90, 3) := by decide +kernel
theorem d_M_clockOf_40 : decode b_M_clockOf 40 = .ok (.ireturn, 1) := by decide +kernel
abbrev b_M_estimate : ByteArray := prog_10_method_29_code
abbrev y_M_estimate : MethodName := ⟨"TimeFloodModel", "estimate", "([II)I"⟩
theorem m_M_estimate : MWV y_M_estimate b_M_estimate 23 (Option.some FieldType.int) 2 := ⟨wd_862, wp_25, wd_9, wd_863, by decide, by decide, by decide +kernel⟩
theorem d_M_estimate_0 : decode b_M_estimate 0 = .ok (.bipush 19, 2) := by decide +kernel
theorem d_M_estimate_2 : decode b_M_estimate 2 = .ok (.iload_n 2, 1) := by decide +kernel
theorem d_M_estimate_3 : decode b_M_estimate 3 = .ok (.imul, 1) := by decide +kernel
theorem d_M_estimate_4 : decode b_M_estimate 4 = .ok (.istore_n 3, 1) := by decide +kernel
theorem d_M_estimate_5 : decode b_M_estimate 5 = .ok (.aload_n 0, 1) := by decide +kernel
theorem d_M_estimate_6 : decode b_M_estimate 6 = .ok (.aload_n 1, 1) := by decide +kernel
theorem d_M_estimate_7 : decode b_M_estimate 7 = .ok (.iload_n 2, 1) := by decide +kernel
theorem d_M_estimate_8 : decode b_M_estimate 8 = .ok (.invokevirtual 182, 3) := by decide +kernel
theorem d_M_estimate_11 : decode b_M_estimate 11 = .ok (.istore 4, 2) := by decide +kernel
theorem d_M_estimate_13 : decode b_M_estimate 13 = .ok (.aload_n 1, 1) := by decide +kernel
theorem d_M_estimate_14 : decode b_M_estimate 14 = .ok (.iload_n 3, 1) := by decide +kernel
theorem d_M_estimate_15 : decode b_M_estimate 15 = .ok (.iconst 2, 1) := by decide +kernel
theorem d_M_estimate_16 : decode b_M_estimate 16 = .ok (.iadd, 1) := by decide +kernel
theorem d_M_estimate_17 : decode b_M_estimate 17 = .ok (.iaload, 1) := by decide +kernel
theorem d_M_estimate_18 : decode b_M_estimate 18 = .ok (.iload_n 2, 1) := by decide +kernel
theorem d_M_estimate_19 : decode b_M_estimate 19 = .ok (.if_icmp .ne 6, 3) := by decide +kernel
theorem d_M_estimate_22 : decode b_M_estimate 22 = .ok (.iload 4, 2) := by decide +kernel
theorem d_M_estimate_24 : decode b_M_estimate 24 = .ok (.ireturn, 1) := by decide +kernel
theorem d_M_estimate_25 : decode b_M_estimate 25 = .ok (.aload_n 1, 1) := by decide +kernel
theorem d_M_estimate_26 : decode b_M_estimate 26 = .ok (.iload_n 3, 1) := by decide +kernel
theorem d_M_estimate_27 : decode b_M_estimate 27 = .ok (.bipush 6, 2) := by decide +kernel
theorem d_M_estimate_29 : decode b_M_estimate 29 = .ok (.iadd, 1) := by decide +kernel
theorem d_M_estimate_30 : decode b_M_estimate 30 = .ok (.iaload, 1) := by decide +kernel
theorem d_M_estimate_31 : decode b_M_estimate 31 = .ok (.istore 5, 2) := by decide +kernel
theorem d_M_estimate_33 : decode b_M_estimate 33 = .ok (.iload 5, 2) := by decide +kernel
theorem d_M_estimate_35 : decode b_M_estimate 35 = .ok (.ifCond .ne 6, 3) := by decide +kernel
theorem d_M_estimate_38 : decode b_M_estimate 38 = .ok (.bipush (-9), 2) := by decide +kernel
theorem d_M_estimate_40 : decode b_M_estimate 40 = .ok (.ireturn, 1) := by decide +kernel
theorem d_M_estimate_41 : decode b_M_estimate 41 = .ok (.aload_n 1, 1) := by decide +kernel
theorem d_M_estimate_42 : decode b_M_estimate 42 = .ok (.iload_n 3, 1) := by decide +kernel
theorem d_M_estimate_43 : decode b_M_estimate 43 = .ok (.bipush 7, 2) := by decide +kernel
theorem d_M_estimate_45 : decode b_M_estimate 45 = .ok (.iadd, 1) := by decide +kernel
theorem d_M_estimate_46 : decode b_M_estimate 46 = .ok (.iconst 3, 1) := by decide +kernel
theorem d_M_estimate_47 : decode b_M_estimate 47 = .ok (.iload 5, 2) := by decide +kernel
theorem d_M_estimate_49 : decode b_M_estimate 49 = .ok (.imul, 1) := by decide +kernel
theorem d_M_estimate_50 : decode b_M_estimate 50 = .ok (.iadd, 1) := by decide +kernel
theorem d_M_estimate_51 : decode b_M_estimate 51 = .ok (.iconst 3, 1) := by decide +kernel
theorem d_M_estimate_52 : decode b_M_estimate 52 = .ok (.isub, 1) := by decide +kernel
theorem d_M_estimate_53 : decode b_M_estimate 53 = .ok (.iaload, 1) := by decide +kernel
theorem d_M_estimate_54 : decode b_M_estimate 54 = .ok (.istore 6, 2) := by decide +kernel
theorem d_M_estimate_56 : decode b_M_estimate 56 = .ok (.aload_n 1, 1) := by decide +kernel
theorem d_M_estimate_57 : decode b_M_estimate 57 = .ok (.iload_n 3, 1) := by decide +kernel
theorem d_M_estimate_58 : decode b_M_estimate 58 = .ok (.bipush 7, 2) := by decide +kernel
theorem d_M_estimate_60 : decode b_M_estimate 60 = .ok (.iadd, 1) := by decide +kernel
theorem d_M_estimate_61 : decode b_M_estimate 61 = .ok (.iconst 3, 1) := by decide +kernel
theorem d_M_estimate_62 : decode b_M_estimate 62 = .ok (.iload 5, 2) := by decide +kernel
theorem d_M_estimate_64 : decode b_M_estimate 64 = .ok (.imul, 1) := by decide +kernel
theorem d_M_estimate_65 : decode b_M_estimate 65 = .ok (.iadd, 1) := by decide +kernel
theorem d_M_estimate_66 : decode b_M_estimate 66 = .ok (.iconst 2, 1) := by decide +kernel
theorem d_M_estimate_67 : decode b_M_estimate 67 = .ok (.isub, 1) := by decide +kernel
theorem d_M_estimate_68 : decode b_M_estimate 68 = .ok (.iaload, 1) := by decide +kernel
theorem d_M_estimate_69 : decode b_M_estimate 69 = .ok (.istore 7, 2) := by decide +kernel
theorem d_M_estimate_71 : decode b_M_estimate 71 = .ok (.lconst 0, 1) := by decide +kernel
theorem d_M_estimate_72 : decode b_M_estimate 72 = .ok (.lstore 8, 2) := by decide +kernel
theorem d_M_estimate_74 : decode b_M_estimate 74 = .ok (.lconst 0, 1) := by decide +kernel
theorem d_M_estimate_75 : decode b_M_estimate 75 = .ok (.lstore 10, 2) := by decide +kernel
theorem d_M_estimate_77 : decode b_M_estimate 77 = .ok (.lconst 0, 1) := by decide +kernel
theorem d_M_estimate_78 : decode b_M_estimate 78 = .ok (.lstore 12, 2) := by decide +kernel
theorem d_M_estimate_80 : decode b_M_estimate 80 = .ok (.lconst 0, 1) := by decide +kernel
theorem d_M_estimate_81 : decode b_M_estimate 81 = .ok (.lstore 14, 2) := by decide +kernel
theorem d_M_estimate_83 : decode b_M_estimate 83 = .ok (.iconst 0, 1) := by decide +kernel
theorem d_M_estimate_84 : decode b_M_estimate 84 = .ok (.istore 16, 2) := by decide +kernel
theorem d_M_estimate_86 : decode b_M_estimate 86 = .ok (.iload 16, 2) := by decide +kernel
theorem d_M_estimate_88 : decode b_M_estimate 88 = .ok (.iload 5, 2) := by decide +kernel
theorem d_M_estimate_90 : decode b_M_estimate 90 = .ok (.if_icmp .ge 101, 3) := by decide +kernel
theorem d_M_estimate_93 : decode b_M_estimate 93 = .ok (.aload_n 1, 1) := by decide +kernel
theorem d_M_estimate_94 : decode b_M_estimate 94 = .ok (.iload_n 3, 1) := by decide +kernel
theorem d_M_estimate_95 : decode b_M_estimate 95 = .ok (.bipush 7, 2) := by decide +kernel
theorem d_M_estimate_97 : decode b_M_estimate 97 = .ok (.iadd, 1) := by decide +kernel
theorem d_M_estimate_98 : decode b_M_estimate 98 = .ok (.iconst 3, 1) := by decide +kernel
theorem d_M_estimate_99 : decode b_M_estimate 99 = .ok (.iload 16, 2) := by decide +kernel
theorem d_M_estimate_101 : decode b_M_estimate 101 = .ok (.imul, 1) := by decide +kernel
theorem d_M_estimate_102 : decode b_M_estimate 102 = .ok (.iadd, 1) := by decide +kernel
theorem d_M_estimate_103 : decode b_M_estimate 103 = .ok (.iaload, 1) := by decide +kernel
theorem d_M_estimate_104 : decode b_M_estimate 104 = .ok (.istore 17, 2) := by decide +kernel
theorem d_M_estimate_106 : decode b_M_estimate 106 = .ok (.aload_n 1, 1) := by decide +kernel
theorem d_M_estimate_107 : decode b_M_estimate 107 = .ok (.iload_n 3, 1) := by decide +kernel
theorem d_M_estimate_108 : decode b_M_estimate 108 = .ok (.bipush 7, 2) := by decide +kernel
theorem d_M_estimate_110 : decode b_M_estimate 110 = .ok (.iadd, 1) := by decide +kernel
theorem d_M_estimate_111 : decode b_M_estimate 111 = .ok (.iconst 3, 1) := by decide +kernel
theorem d_M_estimate_112 : decode b_M_estimate 112 = .ok (.iload 16, 2) := by decide +kernel
theorem d_M_estimate_114 : decode b_M_estimate 114 = .ok (.imul, 1) := by decide +kernel
theorem d_M_estimate_115 : decode b_M_estimate 115 = .ok (.iadd, 1) := by decide +kernel
theorem d_M_estimate_116 : decode b_M_estimate 116 = .ok (.iconst 1, 1) := by decide +kernel
theorem d_M_estimate_117 : decode b_M_estimate 117 = .ok (.iadd, 1) := by decide +kernel
theorem d_M_estimate_118 : decode b_M_estimate 118 = .ok (.iaload, 1) := by decide +kernel
theorem d_M_estimate_119 : decode b_M_estimate 119 = .ok (.istore 18, 2) := by decide +kernel
theorem d_M_estimate_121 : decode b_M_estimate 121 = .ok (.iload 17, 2) := by decide +kernel
theorem d_M_estimate_123 : decode b_M_estimate 123 = .ok (.iload 6, 2) := by decide +kernel
theorem d_M_estimate_125 : decode b_M_estimate 125 = .ok (.isub, 1) := by decide +kernel
theorem d_M_estimate_126 : decode b_M_estimate 126 = .ok (.i2l, 1) := by decide +kernel
theorem d_M_estimate_127 : decode b_M_estimate 127 = .ok (.invokestatic 186, 3) := by decide +kernel
theorem d_M_estimate_130 : decode b_M_estimate 130 = .ok (.i2l, 1) := by decide +kernel
theorem d_M_estimate_131 : decode b_M_estimate 131 = .ok (.lstore 19, 2) := by decide +kernel
theorem d_M_estimate_133 : decode b_M_estimate 133 = .ok (.iload 18, 2) := by decide +kernel
theorem d_M_estimate_135 : decode b_M_estimate 135 = .ok (.iload 17, 2) := by decide +kernel
theorem d_M_estimate_137 : decode b_M_estimate 137 = .ok (.isub, 1) := by decide +kernel
theorem d_M_estimate_138 : decode b_M_estimate 138 = .ok (.iload 7, 2) := by decide +kernel
theorem d_M_estimate_140 : decode b_M_estimate 140 = .ok (.iload 6, 2) := by decide +kernel
theorem d_M_estimate_142 : decode b_M_estimate 142 = .ok (.isub, 1) := by decide +kernel
theorem d_M_estimate_143 : decode b_M_estimate 143 = .ok (.isub, 1) := by decide +kernel
theorem d_M_estimate_144 : decode b_M_estimate 144 = .ok (.i2l, 1) := by decide +kernel
theorem d_M_estimate_145 : decode b_M_estimate 145 = .ok (.invokestatic 186, 3) := by decide +kernel
theorem d_M_estimate_148 : decode b_M_estimate 148 = .ok (.i2l, 1) := by decide +kernel
theorem d_M_estimate_149 : decode b_M_estimate 149 = .ok (.lstore 21, 2) := by decide +kernel
theorem d_M_estimate_151 : decode b_M_estimate 151 = .ok (.lload 8, 2) := by decide +kernel
theorem d_M_estimate_153 : decode b_M_estimate 153 = .ok (.lload 19, 2) := by decide +kernel
theorem d_M_estimate_155 : decode b_M_estimate 155 = .ok (.ladd, 1) := by decide +kernel
theorem d_M_estimate_156 : decode b_M_estimate 156 = .ok (.lstore 8, 2) := by decide +kernel
theorem d_M_estimate_158 : decode b_M_estimate 158 = .ok (.lload 10, 2) := by decide +kernel
theorem d_M_estimate_160 : decode b_M_estimate 160 = .ok (.lload 21, 2) := by decide +kernel
theorem d_M_estimate_162 : decode b_M_estimate 162 = .ok (.ladd, 1) := by decide +kernel
theorem d_M_estimate_163 : decode b_M_estimate 163 = .ok (.lstore 10, 2) := by decide +kernel
theorem d_M_estimate_165 : decode b_M_estimate 165 = .ok (.lload 12, 2) := by decide +kernel
theorem d_M_estimate_167 : decode b_M_estimate 167 = .ok (.lload 19, 2) := by decide +kernel
theorem d_M_estimate_169 : decode b_M_estimate 169 = .ok (.lload 21, 2) := by decide +kernel
theorem d_M_estimate_171 : decode b_M_estimate 171 = .ok (.lmul, 1) := by decide +kernel
theorem d_M_estimate_172 : decode b_M_estimate 172 = .ok (.ladd, 1) := by decide +kernel
theorem d_M_estimate_173 : decode b_M_estimate 173 = .ok (.lstore 12, 2) := by decide +kernel
theorem d_M_estimate_175 : decode b_M_estimate 175 = .ok (.lload 14, 2) := by decide +kernel
theorem d_M_estimate_177 : decode b_M_estimate 177 = .ok (.lload 19, 2) := by decide +kernel
theorem d_M_estimate_179 : decode b_M_estimate 179 = .ok (.lload 19, 2) := by decide +kernel
theorem d_M_estimate_181 : decode b_M_estimate 181 = .ok (.lmul, 1) := by decide +kernel
theorem d_M_estimate_182 : decode b_M_estimate 182 = .ok (.ladd, 1) := by decide +kernel
theorem d_M_estimate_183 : decode b_M_estimate 183 = .ok (.lstore 14, 2) := by decide +kernel
theorem d_M_estimate_185 : decode b_M_estimate 185 = .ok (.iinc 16 1, 3) := by decide +kernel
theorem d_M_estimate_188 : decode b_M_estimate 188 = .ok (.goto (-102), 3) := by decide +kernel
theorem d_M_estimate_191 : decode b_M_estimate 191 = .ok (.iload 5, 2) := by decide +kernel
theorem d_M_estimate_193 : decode b_M_estimate 193 = .ok (.i2l, 1) := by decide +kernel
theorem d_M_estimate_194 : decode b_M_estimate 194 = .ok (.lload 12, 2) := by decide +kernel
theorem d_M_estimate_196 : decode b_M_estimate 196 = .ok (.lmul, 1) := by decide +kernel
theorem d_M_estimate_197 : decode b_M_estimate 197 = .ok (.lload 8, 2) := by decide +kernel
theorem d_M_estimate_199 : decode b_M_estimate 199 = .ok (.lload 10, 2) := by decide +kernel
theorem d_M_estimate_201 : decode b_M_estimate 201 = .ok (.lmul, 1) := by decide +kernel
theorem d_M_estimate_202 : decode b_M_estimate 202 = .ok (.lsub, 1) := by decide +kernel
theorem d_M_estimate_203 : decode b_M_estimate 203 = .ok (.lstore 16, 2) := by decide +kernel
theorem d_M_estimate_205 : decode b_M_estimate 205 = .ok (.iload 5, 2) := by decide +kernel
theorem d_M_estimate_207 : decode b_M_estimate 207 = .ok (.i2l, 1) := by decide +kernel
theorem d_M_estimate_208 : decode b_M_estimate 208 = .ok (.lload 14, 2) := by decide +kernel
theorem d_M_estimate_210 : decode b_M_estimate 210 = .ok (.lmul, 1) := by decide +kernel
theorem d_M_estimate_211 : decode b_M_estimate 211 = .ok (.lload 8, 2) := by decide +kernel
theorem d_M_estimate_213 : decode b_M_estimate 213 = .ok (.lload 8, 2) := by decide +kernel
theorem d_M_estimate_215 : decode b_M_estimate 215 = .ok (.lmul, 1) := by decide +kernel
theorem d_M_estimate_216 : decode b_M_estimate 216 = .ok (.lsub, 1) := by decide +kernel
theorem d_M_estimate_217 : decode b_M_estimate 217 = .ok (.lstore 18, 2) := by decide +kernel
theorem d_M_estimate_219 : decode b_M_estimate 219 = .ok (.lload 18, 2) := by decide +kernel
theorem d_M_estimate_221 : decode b_M_estimate 221 = .ok (.lconst 0, 1) := by decide +kernel
theorem d_M_estimate_222 : decode b_M_estimate 222 = .ok (.lcmp, 1) := by decide +kernel
theorem d_M_estimate_223 : decode b_M_estimate 223 = .ok (.ifCond .ne 14, 3) := by decide +kernel
theorem d_M_estimate_226 : decode b_M_estimate 226 = .ok (.lload 10, 2) := by decide +kernel
theorem d_M_estimate_228 : decode b_M_estimate 228 = .ok (.iload 5, 2) := by decide +kernel
theorem d_M_estimate_230 : decode b_M_estimate 230 = .ok (.i2l, 1) := by decide +kernel
theorem d_M_estimate_231 : decode b_M_estimate 231 = .ok (.invokestatic 86, 3) := by decide +kernel
theorem d_M_estimate_234 : decode b_M_estimate 234 = .ok (.goto 41, 3) := by decide +kernel
theorem d_M_estimate_237 : decode b_M_estimate 237 = .ok (.lload 10, 2) := by decide +kernel
theorem d_M_estimate_239 : decode b_M_estimate 239 = .ok (.lload 18, 2) := by decide +kernel
theorem d_M_estimate_241 : decode b_M_estimate 241 = .ok (.lmul, 1) := by decide +kernel
theorem d_M_estimate_242 : decode b_M_estimate 242 = .ok (.lload 16, 2) := by decide +kernel
theorem d_M_estimate_244 : decode b_M_estimate 244 = .ok (.lload 8, 2) := by decide +kernel
theorem d_M_estimate_246 : decode b_M_estimate 246 = .ok (.lmul, 1) := by decide +kernel
theorem d_M_estimate_247 : decode b_M_estimate 247 = .ok (.lsub, 1) := by decide +kernel
theorem d_M_estimate_248 : decode b_M_estimate 248 = .ok (.iload 5, 2) := by decide +kernel
theorem d_M_estimate_250 : decode b_M_estimate 250 = .ok (.i2l, 1) := by decide +kernel
theorem d_M_estimate_251 : decode b_M_estimate 251 = .ok (.lload 16, 2) := by decide +kernel
theorem d_M_estimate_253 : decode b_M_estimate 253 = .ok (.lmul, 1) := by decide +kernel
theorem d_M_estimate_254 : decode b_M_estimate 254 = .ok (.iload 4, 2) := by decide +kernel
theorem d_M_estimate_256 : decode b_M_estimate 256 = .ok (.iload 6, 2) := by decide +kernel
theorem d_M_estimate_258 : decode b_M_estimate 258 = .ok (.isub, 1) := by decide +kernel
theorem d_M_estimate_259 : decode b_M_estimate 259 = .ok (.i2l, 1) := by decide +kernel
theorem d_M_estimate_260 : decode b_M_estimate 260 = .ok (.invokestatic 186, 3) := by decide +kernel
theorem d_M_estimate_263 : decode b_M_estimate 263 = .ok (.i2l, 1) := by decide +kernel
theorem d_M_estimate_264 : decode b_M_estimate 264 = .ok (.lmul, 1) := by decide +kernel
theorem d_M_estimate_265 : decode b_M_estimate 265 = .ok (.ladd, 1) := by decide +kernel
theorem d_M_estimate_266 : decode b_M_estimate 266 = .ok (.iload 5, 2) := by decide +kernel
theorem d_M_estimate_268 : decode b_M_estimate 268 = .ok (.i2l, 1) := by decide +kernel
theorem d_M_estimate_269 : decode b_M_estimate 269 = .ok (.lload 18, 2) := by decide +kernel
theorem d_M_estimate_271 : decode b_M_estimate 271 = .ok (.lmul, 1) := by decide +kernel
theorem d_M_estimate_272 : decode b_M_estimate 272 = .ok (.invokestatic 86, 3) := by decide +kernel
theorem d_M_estimate_275 : decode b_M_estimate 275 = .ok (.lstore 20, 2) := by decide +kernel
theorem d_M_estimate_277 : decode b_M_estimate 277 = .ok (.iload 4, 2) := by decide +kernel
theorem d_M_estimate_279 : decode b_M_estimate 279 = .ok (.iload 7, 2) := by decide +kernel
theorem d_M_estimate_281 : decode b_M_estimate 281 = .ok (.iadd, 1) := by decide +kernel
theorem d_M_estimate_282 : decode b_M_estimate 282 = .ok (.iload 6, 2) := by decide +kernel
theorem d_M_estimate_284 : decode b_M_estimate 284 = .ok (.isub, 1) := by decide +kernel
theorem d_M_estimate_285 : decode b_M_estimate 285 = .ok (.i2l, 1) := by decide +kernel
theorem d_M_estimate_286 : decode b_M_estimate 286 = .ok (.lload 20, 2) := by decide +kernel
theorem d_M_estimate_288 : decode b_M_estimate 288 = .ok (.ladd, 1) := by decide +kernel
theorem d_M_estimate_289 : decode b_M_estimate 289 = .ok (.invokestatic 90, 3) := by decide +kernel
theorem d_M_estimate_292 : decode b_M_estimate 292 = .ok (.ireturn, 1) := by decide +kernel
abbrev b_M_dropOld : ByteArray := prog_10_method_30_code
abbrev y_M_dropOld : MethodName := ⟨"TimeFloodModel", "dropOld", "([II)V"⟩
theorem m_M_dropOld : MWV y_M_dropOld b_M_dropOld 7 none 2 := ⟨wd_936, wp_35, wd_9, wd_937, by decide, by decide, by decide +kernel⟩
theorem d_M_dropOld_0 : decode b_M_dropOld 0 = .ok (.bipush 19, 2) := by decide +kernel
theorem d_M_dropOld_2 : decode b_M_dropOld 2 = .ok (.iload_n 2, 1) := by decide +kernel
theorem d_M_dropOld_3 : decode b_M_dropOld 3 = .ok (.imul, 1) := by decide +kernel
theorem d_M_dropOld_4 : decode b_M_dropOld 4 = .ok (.istore_n 3, 1) := by decide +kernel
theorem d_M_dropOld_5 : decode b_M_dropOld 5 = .ok (.iconst 0, 1) := by decide +kernel
theorem d_M_dropOld_6 : decode b_M_dropOld 6 = .ok (.istore 4, 2) := by decide +kernel
theorem d_M_dropOld_8 : decode b_M_dropOld 8 = .ok (.iconst 0, 1) := by decide +kernel
theorem d_M_dropOld_9 : decode b_M_dropOld 9 = .ok (.istore 5, 2) := by decide +kernel
theorem d_M_dropOld_11 : decode b_M_dropOld 11 = .ok (.iload 5, 2) := by decide +kernel
theorem d_M_dropOld_13 : decode b_M_dropOld 13 = .ok (.aload_n 1, 1) := by decide +kernel
theorem d_M_dropOld_14 : decode b_M_dropOld 14 = .ok (.iload_n 3, 1) := by decide +kernel
theorem d_M_dropOld_15 : decode b_M_dropOld 15 = .ok (.bipush 6, 2) := by decide +kernel
theorem d_M_dropOld_17 : decode b_M_dropOld 17 = .ok (.iadd, 1) := by decide +kernel
theorem d_M_dropOld_18 : decode b_M_dropOld 18 = .ok (.iaload, 1) := by decide +kernel
theorem d_M_dropOld_19 : decode b_M_dropOld 19 = .ok (.if_icmp .ge 99, 3) := by decide +kernel
theorem d_M_dropOld_22 : decode b_M_dropOld 22 = .ok (.aload_n 1, 1) := by decide +kernel
theorem d_M_dropOld_23 : decode b_M_dropOld 23 = .ok (.iload_n 3, 1) := by decide +kernel
theorem d_M_dropOld_24 : decode b_M_dropOld 24 = .ok (.bipush 7, 2) := by decide +kernel
theorem d_M_dropOld_26 : decode b_M_dropOld 26 = .ok (.iadd, 1) := by decide +kernel
theorem d_M_dropOld_27 : decode b_M_dropOld 27 = .ok (.iconst 3, 1) := by decide +kernel
theorem d_M_dropOld_28 : decode b_M_dropOld 28 = .ok (.iload 5, 2) := by decide +kernel
theorem d_M_dropOld_30 : decode b_M_dropOld 30 = .ok (.imul, 1) := by decide +kernel
theorem d_M_dropOld_31 : decode b_M_dropOld 31 = .ok (.iadd, 1) := by decide +kernel
theorem d_M_dropOld_32 : decode b_M_dropOld 32 = .ok (.iconst 2, 1) := by decide +kernel
theorem d_M_dropOld_33 : decode b_M_dropOld 33 = .ok (.iadd, 1) := by decide +kernel
theorem d_M_dropOld_34 : decode b_M_dropOld 34 = .ok (.iaload, 1) := by decide +kernel
theorem d_M_dropOld_35 : decode b_M_dropOld 35 = .ok (.iconst 1, 1) := by decide +kernel
theorem d_M_dropOld_36 : decode b_M_dropOld 36 = .ok (.iadd, 1) := by decide +kernel
theorem d_M_dropOld_37 : decode b_M_dropOld 37 = .ok (.istore 6, 2) := by decide +kernel
theorem d_M_dropOld_39 : decode b_M_dropOld 39 = .ok (.iload 6, 2) := by decide +kernel
theorem d_M_dropOld_41 : decode b_M_dropOld 41 = .ok (.bipush 9, 2) := by decide +kernel
theorem d_M_dropOld_43 : decode b_M_dropOld 43 = .ok (.if_icmp .gt 69, 3) := by decide +kernel
theorem d_M_dropOld_46 : decode b_M_dropOld 46 = .ok (.aload_n 1, 1) := by decide +kernel
theorem d_M_dropOld_47 : decode b_M_dropOld 47 = .ok (.iload_n 3, 1) := by decide +kernel
theorem d_M_dropOld_48 : decode b_M_dropOld 48 = .ok (.bipush 7, 2) := by decide +kernel
theorem d_M_dropOld_50 : decode b_M_dropOld 50 = .ok (.iadd, 1) := by decide +kernel
theorem d_M_dropOld_51 : decode b_M_dropOld 51 = .ok (.iconst 3, 1) := by decide +kernel
theorem d_M_dropOld_52 : decode b_M_dropOld 52 = .ok (.iload 4, 2) := by decide +kernel
theorem d_M_dropOld_54 : decode b_M_dropOld 54 = .ok (.imul, 1) := by decide +kernel
theorem d_M_dropOld_55 : decode b_M_dropOld 55 = .ok (.iadd, 1) := by decide +kernel
theorem d_M_dropOld_56 : decode b_M_dropOld 56 = .ok (.aload_n 1, 1) := by decide +kernel
theorem d_M_dropOld_57 : decode b_M_dropOld 57 = .ok (.iload_n 3, 1) := by decide +kernel
theorem d_M_dropOld_58 : decode b_M_dropOld 58 = .ok (.bipush 7, 2) := by decide +kernel
theorem d_M_dropOld_60 : decode b_M_dropOld 60 = .ok (.iadd, 1) := by decide +kernel
theorem d_M_dropOld_61 : decode b_M_dropOld 61 = .ok (.iconst 3, 1) := by decide +kernel
theorem d_M_dropOld_62 : decode b_M_dropOld 62 = .ok (.iload 5, 2) := by decide +kernel
theorem d_M_dropOld_64 : decode b_M_dropOld 64 = .ok (.imul, 1) := by decide +kernel
theorem d_M_dropOld_65 : decode b_M_dropOld 65 = .ok (.iadd, 1) := by decide +kernel
theorem d_M_dropOld_66 : decode b_M_dropOld 66 = .ok (.iaload, 1) := by decide +kernel
theorem d_M_dropOld_67 : decode b_M_dropOld 67 = .ok (.iastore, 1) := by decide +kernel
theorem d_M_dropOld_68 : decode b_M_dropOld 68 = .ok (.aload_n 1, 1) := by decide +kernel
theorem d_M_dropOld_69 : decode b_M_dropOld 69 = .ok (.iload_n 3, 1) := by decide +kernel
theorem d_M_dropOld_70 : decode b_M_dropOld 70 = .ok (.bipush 7, 2) := by decide +kernel
theorem d_M_dropOld_72 : decode b_M_dropOld 72 = .ok (.iadd, 1) := by decide +kernel
theorem d_M_dropOld_73 : decode b_M_dropOld 73 = .ok (.iconst 3, 1) := by decide +kernel
theorem d_M_dropOld_74 : decode b_M_dropOld 74 = .ok (.iload 4, 2) := by decide +kernel
theorem d_M_dropOld_76 : decode b_M_dropOld 76 = .ok (.imul, 1) := by decide +kernel
theorem d_M_dropOld_77 : decode b_M_dropOld 77 = .ok (.iadd, 1) := by decide +kernel
theorem d_M_dropOld_78 : decode b_M_dropOld 78 = .ok (.iconst 1, 1) := by decide +kernel
theorem d_M_dropOld_79 : decode b_M_dropOld 79 = .ok (.iadd, 1) := by decide +kernel
theorem d_M_dropOld_80 : decode b_M_dropOld 80 = .ok (.aload_n 1, 1) := by decide +kernel
theorem d_M_dropOld_81 : decode b_M_dropOld 81 = .ok (.iload_n 3, 1) := by decide +kernel
theorem d_M_dropOld_82 : decode b_M_dropOld 82 = .ok (.bipush 7, 2) := by decide +kernel
theorem d_M_dropOld_84 : decode b_M_dropOld 84 = .ok (.iadd, 1) := by decide +kernel
theorem d_M_dropOld_85 : decode b_M_dropOld 85 = .ok (.iconst 3, 1) := by decide +kernel
theorem d_M_dropOld_86 : decode b_M_dropOld 86 = .ok (.iload 5, 2) := by decide +kernel
theorem d_M_dropOld_88 : decode b_M_dropOld 88 = .ok (.imul, 1) := by decide +kernel
theorem d_M_dropOld_89 : decode b_M_dropOld 89 = .ok (.iadd, 1) := by decide +kernel
theorem d_M_dropOld_90 : decode b_M_dropOld 90 = .ok (.iconst 1, 1) := by decide +kernel
theorem d_M_dropOld_91 : decode b_M_dropOld 91 = .ok (.iadd, 1) := by decide +kernel
theorem d_M_dropOld_92 : decode b_M_dropOld 92 = .ok (.iaload, 1) := by decide +kernel
theorem d_M_dropOld_93 : decode b_M_dropOld 93 = .ok (.iastore, 1) := by decide +kernel
theorem d_M_dropOld_94 : decode b_M_dropOld 94 = .ok (.aload_n 1, 1) := by decide +kernel
theorem d_M_dropOld_95 : decode b_M_dropOld 95 = .ok (.iload_n 3, 1) := by decide +kernel
theorem d_M_dropOld_96 : decode b_M_dropOld 96 = .ok (.bipush 7, 2) := by decide +kernel
theorem d_M_dropOld_98 : decode b_M_dropOld 98 = .ok (.iadd, 1) := by decide +kernel
theorem d_M_dropOld_99 : decode b_M_dropOld 99 = .ok (.iconst 3, 1) := by decide +kernel
theorem d_M_dropOld_100 : decode b_M_dropOld 100 = .ok (.iload 4, 2) := by decide +kernel
theorem d_M_dropOld_102 : decode b_M_dropOld 102 = .ok (.imul, 1) := by decide +kernel
theorem d_M_dropOld_103 : decode b_M_dropOld 103 = .ok (.iadd, 1) := by decide +kernel
theorem d_M_dropOld_104 : decode b_M_dropOld 104 = .ok (.iconst 2, 1) := by decide +kernel
theorem d_M_dropOld_105 : decode b_M_dropOld 105 = .ok (.iadd, 1) := by decide +kernel
theorem d_M_dropOld_106 : decode b_M_dropOld 106 = .ok (.iload 6, 2) := by decide +kernel
theorem d_M_dropOld_108 : decode b_M_dropOld 108 = .ok (.iastore, 1) := by decide +kernel
theorem d_M_dropOld_109 : decode b_M_dropOld 109 = .ok (.iinc 4 1, 3) := by decide +kernel
theorem d_M_dropOld_112 : decode b_M_dropOld 112 = .ok (.iinc 5 1, 3) := by decide +kernel
theorem d_M_dropOld_115 : decode b_M_dropOld 115 = .ok (.goto (-104), 3) := by decide +kernel
theorem d_M_dropOld_118 : decode b_M_dropOld 118 = .ok (.aload_n 1, 1) := by decide +kernel
theorem d_M_dropOld_119 : decode b_M_dropOld 119 = .ok (.iload_n 3, 1) := by decide +kernel
theorem d_M_dropOld_120 : decode b_M_dropOld 120 = .ok (.bipush 6, 2) := by decide +kernel
theorem d_M_dropOld_122 : decode b_M_dropOld 122 = .ok (.iadd, 1) := by decide +kernel
theorem d_M_dropOld_123 : decode b_M_dropOld 123 = .ok (.iload 4, 2) := by decide +kernel
theorem d_M_dropOld_125 : decode b_M_dropOld 125 = .ok (.iastore, 1) := by decide +kernel
theorem d_M_dropOld_126 : decode b_M_dropOld 126 = .ok (.return_, 1) := by decide +kernel
abbrev b_M_goOne : ByteArray := prog_10_method_31_code
abbrev y_M_goOne : MethodName := ⟨"TimeFloodModel", "goOne", "([II)V"⟩
theorem m_M_goOne : MWV y_M_goOne b_M_goOne 4 none 2 := ⟨wd_932, wp_34, wd_9, wd_933, by decide, by decide, by decide +kernel⟩
theorem d_M_goOne_0 : decode b_M_goOne 0 = .ok (.bipush 19, 2) := by decide +kernel
theorem d_M_goOne_2 : decode b_M_goOne 2 = .ok (.iload_n 2, 1) := by decide +kernel
theorem d_M_goOne_3 : decode b_M_goOne 3 = .ok (.imul, 1) := by decide +kernel
theorem d_M_goOne_4 : decode b_M_goOne 4 = .ok (.istore_n 3, 1) := by decide +kernel
theorem d_M_goOne_5 : decode b_M_goOne 5 = .ok (.aload_n 0, 1) := by decide +kernel
theorem d_M_goOne_6 : decode b_M_goOne 6 = .ok (.getfield 59, 3) := by decide +kernel
theorem d_M_goOne_9 : decode b_M_goOne 9 = .ok (.iload_n 2, 1) := by decide +kernel
theorem d_M_goOne_10 : decode b_M_goOne 10 = .ok (.aload_n 1, 1) := by decide +kernel
theorem d_M_goOne_11 : decode b_M_goOne 11 = .ok (.iload_n 3, 1) := by decide +kernel
theorem d_M_goOne_12 : decode b_M_goOne 12 = .ok (.iconst 2, 1) := by decide +kernel
theorem d_M_goOne_13 : decode b_M_goOne 13 = .ok (.iadd, 1) := by decide +kernel
theorem d_M_goOne_14 : decode b_M_goOne 14 = .ok (.iaload, 1) := by decide +kernel
theorem d_M_goOne_15 : decode b_M_goOne 15 = .ok (.iload_n 2, 1) := by decide +kernel
theorem d_M_goOne_16 : decode b_M_goOne 16 = .ok (.if_icmp .ne 7, 3) := by decide +kernel
theorem d_M_goOne_19 : decode b_M_goOne 19 = .ok (.iconst 1, 1) := by decide +kernel
theorem d_M_goOne_20 : decode b_M_goOne 20 = .ok (.goto 4, 3) := by decide +kernel
theorem d_M_goOne_23 : decode b_M_goOne 23 = .ok (.iconst 0, 1) := by decide +kernel
theorem d_M_goOne_24 : decode b_M_goOne 24 = .ok (.bastore, 1) := by decide +kernel
theorem d_M_goOne_25 : decode b_M_goOne 25 = .ok (.aload_n 0, 1) := by decide +kernel
theorem d_M_goOne_26 : decode b_M_goOne 26 = .ok (.aload_n 1, 1) := by decide +kernel
theorem d_M_goOne_27 : decode b_M_goOne 27 = .ok (.iload_n 2, 1) := by decide +kernel
theorem d_M_goOne_28 : decode b_M_goOne 28 = .ok (.invokevirtual 189, 3) := by decide +kernel
theorem d_M_goOne_31 : decode b_M_goOne 31 = .ok (.aload_n 1, 1) := by decide +kernel
theorem d_M_goOne_32 : decode b_M_goOne 32 = .ok (.iload_n 3, 1) := by decide +kernel
theorem d_M_goOne_33 : decode b_M_goOne 33 = .ok (.iconst 4, 1) := by decide +kernel
theorem d_M_goOne_34 : decode b_M_goOne 34 = .ok (.iadd, 1) := by decide +kernel
theorem d_M_goOne_35 : decode b_M_goOne 35 = .ok (.dup2, 1) := by decide +kernel
theorem d_M_goOne_36 : decode b_M_goOne 36 = .ok (.iaload, 1) := by decide +kernel
theorem d_M_goOne_37 : decode b_M_goOne 37 = .ok (.iconst 1, 1) := by decide +kernel
theorem d_M_goOne_38 : decode b_M_goOne 38 = .ok (.iadd, 1) := by decide +kernel
theorem d_M_goOne_39 : decode b_M_goOne 39 = .ok (.iastore, 1) := by decide +kernel
theorem d_M_goOne_40 : decode b_M_goOne 40 = .ok (.aload_n 1, 1) := by decide +kernel
theorem d_M_goOne_41 : decode b_M_goOne 41 = .ok (.iload_n 3, 1) := by decide +kernel
theorem d_M_goOne_42 : decode b_M_goOne 42 = .ok (.iconst 5, 1) := by decide +kernel
theorem d_M_goOne_43 : decode b_M_goOne 43 = .ok (.iadd, 1) := by decide +kernel
theorem d_M_goOne_44 : decode b_M_goOne 44 = .ok (.dup2, 1) := by decide +kernel
theorem d_M_goOne_45 : decode b_M_goOne 45 = .ok (.iaload, 1) := by decide +kernel
theorem d_M_goOne_46 : decode b_M_goOne 46 = .ok (.aload_n 1, 1) := by decide +kernel
theorem d_M_goOne_47 : decode b_M_goOne 47 = .ok (.iload_n 3, 1) := by decide +kernel
theorem d_M_goOne_48 : decode b_M_goOne 48 = .ok (.iconst 5, 1) := by decide +kernel
theorem d_M_goOne_49 : decode b_M_goOne 49 = .ok (.iadd, 1) := by decide +kernel
theorem d_M_goOne_50 : decode b_M_goOne 50 = .ok (.iaload, 1) := by decide +kernel
theorem d_M_goOne_51 : decode b_M_goOne 51 = .ok (.ifCond .le 7, 3) := by decide +kernel
theorem d_M_goOne_54 : decode b_M_goOne 54 = .ok (.iconst 1, 1) := by decide +kernel
theorem d_M_goOne_55 : decode b_M_goOne 55 = .ok (.goto 4, 3) := by decide +kernel
theorem d_M_goOne_58 : decode b_M_goOne 58 = .ok (.iconst 0, 1) := by decide +kernel
theorem d_M_goOne_59 : decode b_M_goOne 59 = .ok (.isub, 1) := by decide +kernel
theorem d_M_goOne_60 : decode b_M_goOne 60 = .ok (.iastore, 1) := by decide +kernel
theorem d_M_goOne_61 : decode b_M_goOne 61 = .ok (.aload_n 0, 1) := by decide +kernel
theorem d_M_goOne_62 : decode b_M_goOne 62 = .ok (.getfield 59, 3) := by decide +kernel
theorem d_M_goOne_65 : decode b_M_goOne 65 = .ok (.iload_n 2, 1) := by decide +kernel
theorem d_M_goOne_66 : decode b_M_goOne 66 = .ok (.baload, 1) := by decide +kernel
theorem d_M_goOne_67 : decode b_M_goOne 67 = .ok (.ifCond .eq 27, 3) := by decide +kernel
theorem d_M_goOne_70 : decode b_M_goOne 70 = .ok (.aload_n 1, 1) := by decide +kernel
theorem d_M_goOne_71 : decode b_M_goOne 71 = .ok (.iload_n 3, 1) := by decide +kernel
theorem d_M_goOne_72 : decode b_M_goOne 72 = .ok (.iconst 3, 1) := by decide +kernel
theorem d_M_goOne_73 : decode b_M_goOne 73 = .ok (.iadd, 1) := by decide +kernel
theorem d_M_goOne_74 : decode b_M_goOne 74 = .ok (.aload_n 1, 1) := by decide +kernel
theorem d_M_goOne_75 : decode b_M_goOne 75 = .ok (.iload_n 3, 1) := by decide +kernel
theorem d_M_goOne_76 : decode b_M_goOne 76 = .ok (.iconst 3, 1) := by decide +kernel
theorem d_M_goOne_77 : decode b_M_goOne 77 = .ok (.iadd, 1) := by decide +kernel
theorem d_M_goOne_78 : decode b_M_goOne 78 = .ok (.iaload, 1) := by decide +kernel
theorem d_M_goOne_79 : decode b_M_goOne 79 = .ok (.iconst 1, 1) := by decide +kernel
theorem d_M_goOne_80 : decode b_M_goOne 80 = .ok (.iadd, 1) := by decide +kernel
theorem d_M_goOne_81 : decode b_M_goOne 81 = .ok (.bipush 64, 2) := by decide +kernel
theorem d_M_goOne_83 : decode b_M_goOne 83 = .ok (.irem, 1) := by decide +kernel
theorem d_M_goOne_84 : decode b_M_goOne 84 = .ok (.iastore, 1) := by decide +kernel
theorem d_M_goOne_85 : decode b_M_goOne 85 = .ok (.aload_n 1, 1) := by decide +kernel
theorem d_M_goOne_86 : decode b_M_goOne 86 = .ok (.iload_n 3, 1) := by decide +kernel
theorem d_M_goOne_87 : decode b_M_goOne 87 = .ok (.iconst 4, 1) := by decide +kernel
theorem d_M_goOne_88 : decode b_M_goOne 88 = .ok (.iadd, 1) := by decide +kernel
theorem d_M_goOne_89 : decode b_M_goOne 89 = .ok (.iconst 0, 1) := by decide +kernel
theorem d_M_goOne_90 : decode b_M_goOne 90 = .ok (.iastore, 1) := by decide +kernel
theorem d_M_goOne_91 : decode b_M_goOne 91 = .ok (.goto 58, 3) := by decide +kernel
theorem d_M_goOne_94 : decode b_M_goOne 94 = .ok (.aload_n 1, 1) := by decide +kernel
theorem d_M_goOne_95 : decode b_M_goOne 95 = .ok (.iload_n 3, 1) := by decide +kernel
theorem d_M_goOne_96 : decode b_M_goOne 96 = .ok (.iconst 4, 1) := by decide +kernel
theorem d_M_goOne_97 : decode b_M_goOne 97 = .ok (.iadd, 1) := by decide +kernel
theorem d_M_goOne_98 : decode b_M_goOne 98 = .ok (.iaload, 1) := by decide +kernel
theorem d_M_goOne_99 : decode b_M_goOne 99 = .ok (.aload_n 0, 1) := by decide +kernel
theorem d_M_goOne_100 : decode b_M_goOne 100 = .ok (.getfield 81, 3) := by decide +kernel
theorem d_M_goOne_103 : decode b_M_goOne 103 = .ok (.if_icmp .le 46, 3) := by decide +kernel
theorem d_M_goOne_106 : decode b_M_goOne 106 = .ok (.aload_n 1, 1) := by decide +kernel
theorem d_M_goOne_107 : decode b_M_goOne 107 = .ok (.iload_n 3, 1) := by decide +kernel
theorem d_M_goOne_108 : decode b_M_goOne 108 = .ok (.iconst 2, 1) := by decide +kernel
theorem d_M_goOne_109 : decode b_M_goOne 109 = .ok (.iadd, 1) := by decide +kernel
theorem d_M_goOne_110 : decode b_M_goOne 110 = .ok (.iload_n 2, 1) := by decide +kernel
theorem d_M_goOne_111 : decode b_M_goOne 111 = .ok (.iastore, 1) := by decide +kernel
theorem d_M_goOne_112 : decode b_M_goOne 112 = .ok (.aload_n 1, 1) := by decide +kernel
theorem d_M_goOne_113 : decode b_M_goOne 113 = .ok (.iload_n 3, 1) := by decide +kernel
theorem d_M_goOne_114 : decode b_M_goOne 114 = .ok (.iconst 3, 1) := by decide +kernel
theorem d_M_goOne_115 : decode b_M_goOne 115 = .ok (.iadd, 1) := by decide +kernel
theorem d_M_goOne_116 : decode b_M_goOne 116 = .ok (.aload_n 1, 1) := by decide +kernel
theorem d_M_goOne_117 : decode b_M_goOne 117 = .ok (.iload_n 3, 1) := by decide +kernel
theorem d_M_goOne_118 : decode b_M_goOne 118 = .ok (.iconst 3, 1) := by decide +kernel
theorem d_M_goOne_119 : decode b_M_goOne 119 = .ok (.iadd, 1) := by decide +kernel
theorem d_M_goOne_120 : decode b_M_goOne 120 = .ok (.iaload, 1) := by decide +kernel
theorem d_M_goOne_121 : decode b_M_goOne 121 = .ok (.iconst 1, 1) := by decide +kernel
theorem d_M_goOne_122 : decode b_M_goOne 122 = .ok (.iadd, 1) := by decide +kernel
theorem d_M_goOne_123 : decode b_M_goOne 123 = .ok (.bipush 64, 2) := by decide +kernel
theorem d_M_goOne_125 : decode b_M_goOne 125 = .ok (.irem, 1) := by decide +kernel
theorem d_M_goOne_126 : decode b_M_goOne 126 = .ok (.iastore, 1) := by decide +kernel
theorem d_M_goOne_127 : decode b_M_goOne 127 = .ok (.aload_n 1, 1) := by decide +kernel
theorem d_M_goOne_128 : decode b_M_goOne 128 = .ok (.iload_n 3, 1) := by decide +kernel
theorem d_M_goOne_129 : decode b_M_goOne 129 = .ok (.bipush 6, 2) := by decide +kernel
theorem d_M_goOne_131 : decode b_M_goOne 131 = .ok (.iadd, 1) := by decide +kernel
theorem d_M_goOne_132 : decode b_M_goOne 132 = .ok (.iconst 0, 1) := by decide +kernel
theorem d_M_goOne_133 : decode b_M_goOne 133 = .ok (.iastore, 1) := by decide +kernel
theorem d_M_goOne_134 : decode b_M_goOne 134 = .ok (.aload_n 1, 1) := by decide +kernel
theorem d_M_goOne_135 : decode b_M_goOne 135 = .ok (.iload_n 3, 1) := by decide +kernel
theorem d_M_goOne_136 : decode b_M_goOne 136 = .ok (.iconst 4, 1) := by decide +kernel
theorem d_M_goOne_137 : decode b_M_goOne 137 = .ok (.iadd, 1) := by decide +kernel
theorem d_M_goOne_138 : decode b_M_goOne 138 = .ok (.iconst 0, 1) := by decide +kernel
theorem d_M_goOne_139 : decode b_M_goOne 139 = .ok (.iastore, 1) := by decide +kernel
theorem d_M_goOne_140 : decode b_M_goOne 140 = .ok (.aload_n 1, 1) := by decide +kernel
theorem d_M_goOne_141 : decode b_M_goOne 141 = .ok (.iload_n 3, 1) := by decide +kernel
theorem d_M_goOne_142 : decode b_M_goOne 142 = .ok (.iconst 5, 1) := by decide +kernel
theorem d_M_goOne_143 : decode b_M_goOne 143 = .ok (.iadd, 1) := by decide +kernel
theorem d_M_goOne_144 : decode b_M_goOne 144 = .ok (.aload_n 0, 1) := by decide +kernel
theorem d_M_goOne_145 : decode b_M_goOne 145 = .ok (.getfield 168, 3) := by decide +kernel
theorem d_M_goOne_148 : decode b_M_goOne 148 = .ok (.iastore, 1) := by decide +kernel
theorem d_M_goOne_149 : decode b_M_goOne 149 = .ok (.return_, 1) := by decide +kernel
abbrev b_M_laySent : ByteArray := prog_10_method_32_code
abbrev y_M_laySent : MethodName := ⟨"TimeFloodModel", "laySent", "([I)V"⟩
theorem m_M_laySent : MWV y_M_laySent b_M_laySent 4 none 1 := ⟨wd_940, wp_36, wd_9, wd_941, by decide, by decide, by decide +kernel⟩
theorem d_M_laySent_0 : decode b_M_laySent 0 = .ok (.iconst 0, 1) := by decide +kernel
theorem d_M_laySent_1 : decode b_M_laySent 1 = .ok (.istore_n 2, 1) := by decide +kernel
theorem d_M_laySent_2 : decode b_M_laySent 2 = .ok (.iload_n 2, 1) := by decide +kernel
theorem d_M_laySent_3 : decode b_M_laySent 3 = .ok (.aload_n 0, 1) := by decide +kernel
theorem d_M_laySent_4 : decode b_M_laySent 4 = .ok (.getfield 94, 3) := by decide +kernel
theorem d_M_laySent_7 : decode b_M_laySent 7 = .ok (.if_icmp .ge 87, 3) := by decide +kernel
theorem d_M_laySent_10 : decode b_M_laySent 10 = .ok (.bipush 19, 2) := by decide +kernel
theorem d_M_laySent_12 : decode b_M_laySent 12 = .ok (.iload_n 2, 1) := by decide +kernel
theorem d_M_laySent_13 : decode b_M_laySent 13 = .ok (.imul, 1) := by decide +kernel
theorem d_M_laySent_14 : decode b_M_laySent 14 = .ok (.istore_n 3, 1) := by decide +kernel
theorem d_M_laySent_15 : decode b_M_laySent 15 = .ok (.aload_n 0, 1) := by decide +kernel
theorem d_M_laySent_16 : decode b_M_laySent 16 = .ok (.getfield 47, 3) := by decide +kernel
theorem d_M_laySent_19 : decode b_M_laySent 19 = .ok (.iload_n 2, 1) := by decide +kernel
theorem d_M_laySent_20 : decode b_M_laySent 20 = .ok (.aload_n 1, 1) := by decide +kernel
theorem d_M_laySent_21 : decode b_M_laySent 21 = .ok (.iload_n 3, 1) := by decide +kernel
theorem d_M_laySent_22 : decode b_M_laySent 22 = .ok (.iconst 0, 1) := by decide +kernel
theorem d_M_laySent_23 : decode b_M_laySent 23 = .ok (.iadd, 1) := by decide +kernel
theorem d_M_laySent_24 : decode b_M_laySent 24 = .ok (.iaload, 1) := by decide +kernel
theorem d_M_laySent_25 : decode b_M_laySent 25 = .ok (.iconst 1, 1) := by decide +kernel
theorem d_M_laySent_26 : decode b_M_laySent 26 = .ok (.if_icmp .ne 26, 3) := by decide +kernel
theorem d_M_laySent_29 : decode b_M_laySent 29 = .ok (.aload_n 1, 1) := by decide +kernel
theorem d_M_laySent_30 : decode b_M_laySent 30 = .ok (.iload_n 3, 1) := by decide +kernel
theorem d_M_laySent_31 : decode b_M_laySent 31 = .ok (.iconst 2, 1) := by decide +kernel
theorem d_M_laySent_32 : decode b_M_laySent 32 = .ok (.iadd, 1) := by decide +kernel
theorem d_M_laySent_33 : decode b_M_laySent 33 = .ok (.iaload, 1) := by decide +kernel
theorem d_M_laySent_34 : decode b_M_laySent 34 = .ok (.iload_n 2, 1) := by decide +kernel
theorem d_M_laySent_35 : decode b_M_laySent 35 = .ok (.if_icmp .eq 13, 3) := by decide +kernel
theorem d_M_laySent_38 : decode b_M_laySent 38 = .ok (.aload_n 1, 1) := by decide +kernel
theorem d_M_laySent_39 : decode b_M_laySent 39 = .ok (.iload_n 3, 1) := by decide +kernel
theorem d_M_laySent_40 : decode b_M_laySent 40 = .ok (.bipush 6, 2) := by decide +kernel
theorem d_M_laySent_42 : decode b_M_laySent 42 = .ok (.iadd, 1) := by decide +kernel
theorem d_M_laySent_43 : decode b_M_laySent 43 = .ok (.iaload, 1) := by decide +kernel
theorem d_M_laySent_44 : decode b_M_laySent 44 = .ok (.iconst 1, 1) := by decide +kernel
theorem d_M_laySent_45 : decode b_M_laySent 45 = .ok (.if_icmp .le 7, 3) := by decide +kernel
theorem d_M_laySent_48 : decode b_M_laySent 48 = .ok (.iconst 1, 1) := by decide +kernel
theorem d_M_laySent_49 : decode b_M_laySent 49 = .ok (.goto 4, 3) := by decide +kernel
theorem d_M_laySent_52 : decode b_M_laySent 52 = .ok (.iconst 0, 1) := by decide +kernel
theorem d_M_laySent_53 : decode b_M_laySent 53 = .ok (.bastore, 1) := by decide +kernel
theorem d_M_laySent_54 : decode b_M_laySent 54 = .ok (.aload_n 0, 1) := by decide +kernel
theorem d_M_laySent_55 : decode b_M_laySent 55 = .ok (.getfield 50, 3) := by decide +kernel
theorem d_M_laySent_58 : decode b_M_laySent 58 = .ok (.iload_n 2, 1) := by decide +kernel
theorem d_M_laySent_59 : decode b_M_laySent 59 = .ok (.aload_n 1, 1) := by decide +kernel
theorem d_M_laySent_60 : decode b_M_laySent 60 = .ok (.iload_n 3, 1) := by decide +kernel
theorem d_M_laySent_61 : decode b_M_laySent 61 = .ok (.iconst 2, 1) := by decide +kernel
theorem d_M_laySent_62 : decode b_M_laySent 62 = .ok (.iadd, 1) := by decide +kernel
theorem d_M_laySent_63 : decode b_M_laySent 63 = .ok (.iaload, 1) := by decide +kernel
theorem d_M_laySent_64 : decode b_M_laySent 64 = .ok (.iastore, 1) := by decide +kernel
theorem d_M_laySent_65 : decode b_M_laySent 65 = .ok (.aload_n 0, 1) := by decide +kernel
theorem d_M_laySent_66 : decode b_M_laySent 66 = .ok (.getfield 53, 3) := by decide +kernel
theorem d_M_laySent_69 : decode b_M_laySent 69 = .ok (.iload_n 2, 1) := by decide +kernel
theorem d_M_laySent_70 : decode b_M_laySent 70 = .ok (.aload_n 1, 1) := by decide +kernel
theorem d_M_laySent_71 : decode b_M_laySent 71 = .ok (.iload_n 3, 1) := by decide +kernel
theorem d_M_laySent_72 : decode b_M_laySent 72 = .ok (.iconst 3, 1) := by decide +kernel
theorem d_M_laySent_73 : decode b_M_laySent 73 = .ok (.iadd, 1) := by decide +kernel
theorem d_M_laySent_74 : decode b_M_laySent 74 = .ok (.iaload, 1) := by decide +kernel
theorem d_M_laySent_75 : decode b_M_laySent 75 = .ok (.iastore, 1) := by decide +kernel
theorem d_M_laySent_76 : decode b_M_laySent 76 = .ok (.aload_n 0, 1) := by decide +kernel
theorem d_M_laySent_77 : decode b_M_laySent 77 = .ok (.getfield 56, 3) := by decide +kernel
theorem d_M_laySent_80 : decode b_M_laySent 80 = .ok (.iload_n 2, 1) := by decide +kernel
theorem d_M_laySent_81 : decode b_M_laySent 81 = .ok (.aload_n 0, 1) := by decide +kernel
theorem d_M_laySent_82 : decode b_M_laySent 82 = .ok (.aload_n 1, 1) := by decide +kernel
theorem d_M_laySent_83 : decode b_M_laySent 83 = .ok (.iload_n 2, 1) := by decide +kernel
theorem d_M_laySent_84 : decode b_M_laySent 84 = .ok (.invokevirtual 192, 3) := by decide +kernel
theorem d_M_laySent_87 : decode b_M_laySent 87 = .ok (.iastore, 1) := by decide +kernel
theorem d_M_laySent_88 : decode b_M_laySent 88 = .ok (.iinc 2 1, 3) := by decide +kernel
theorem d_M_laySent_91 : decode b_M_laySent 91 = .ok (.goto (-89), 3) := by decide +kernel
theorem d_M_laySent_94 : decode b_M_laySent 94 = .ok (.return_, 1) := by decide +kernel
abbrev b_M_areBeside : ByteArray := prog_10_method_33_code
abbrev y_M_areBeside : MethodName := ⟨"TimeFloodModel", "areBeside", "([III)Z"⟩
theorem m_M_areBeside : MWV y_M_areBeside b_M_areBeside 7 (Option.some FieldType.boolean) 3 := ⟨wd_944, wp_37, wd_9, wd_945, by decide, by decide, by decide +kernel⟩
theorem d_M_areBeside_0 : decode b_M_areBeside 0 = .ok (.iconst 0, 1) := by decide +kernel
theorem d_M_areBeside_1 : decode b_M_areBeside 1 = .ok (.istore 4, 2) := by decide +kernel
theorem d_M_areBeside_3 : decode b_M_areBeside 3 = .ok (.iconst 0, 1) := by decide +kernel
theorem d_M_areBeside_4 : decode b_M_areBeside 4 = .ok (.istore 5, 2) := by decide +kernel
theorem d_M_areBeside_6 : decode b_M_areBeside 6 = .ok (.iload 5, 2) := by decide +kernel
theorem d_M_areBeside_8 : decode b_M_areBeside 8 = .ok (.aload_n 0, 1) := by decide +kernel
theorem d_M_areBeside_9 : decode b_M_areBeside 9 = .ok (.getfield 101, 3) := by decide +kernel
theorem d_M_areBeside_12 : decode b_M_areBeside 12 = .ok (.if_icmp .ge 87, 3) := by decide +kernel
theorem d_M_areBeside_15 : decode b_M_areBeside 15 = .ok (.aload_n 0, 1) := by decide +kernel
theorem d_M_areBeside_16 : decode b_M_areBeside 16 = .ok (.getfield 16, 3) := by decide +kernel
theorem d_M_areBeside_19 : decode b_M_areBeside 19 = .ok (.iload 5, 2) := by decide +kernel
theorem d_M_areBeside_21 : decode b_M_areBeside 21 = .ok (.iaload, 1) := by decide +kernel
theorem d_M_areBeside_22 : decode b_M_areBeside 22 = .ok (.iload_n 2, 1) := by decide +kernel
theorem d_M_areBeside_23 : decode b_M_areBeside 23 = .ok (.if_icmp .ne 14, 3) := by decide +kernel
theorem d_M_areBeside_26 : decode b_M_areBeside 26 = .ok (.aload_n 0, 1) := by decide +kernel
theorem d_M_areBeside_27 : decode b_M_areBeside 27 = .ok (.getfield 19, 3) := by decide +kernel
theorem d_M_areBeside_30 : decode b_M_areBeside 30 = .ok (.iload 5, 2) := by decide +kernel
theorem d_M_areBeside_32 : decode b_M_areBeside 32 = .ok (.iaload, 1) := by decide +kernel
theorem d_M_areBeside_33 : decode b_M_areBeside 33 = .ok (.iload_n 3, 1) := by decide +kernel
theorem d_M_areBeside_34 : decode b_M_areBeside 34 = .ok (.if_icmp .eq 25, 3) := by decide +kernel
theorem d_M_areBeside_37 : decode b_M_areBeside 37 = .ok (.aload_n 0, 1) := by decide +kernel
theorem d_M_areBeside_38 : decode b_M_areBeside 38 = .ok (.getfield 16, 3) := by decide +kernel
theorem d_M_areBeside_41 : decode b_M_areBeside 41 = .ok (.iload 5, 2) := by decide +kernel
theorem d_M_areBeside_43 : decode b_M_areBeside 43 = .ok (.iaload, 1) := by decide +kernel
theorem d_M_areBeside_44 : decode b_M_areBeside 44 = .ok (.iload_n 3, 1) := by decide +kernel
theorem d_M_areBeside_45 : decode b_M_areBeside 45 = .ok (.if_icmp .ne 18, 3) := by decide +kernel
theorem d_M_areBeside_48 : decode b_M_areBeside 48 = .ok (.aload_n 0, 1) := by decide +kernel
theorem d_M_areBeside_49 : decode b_M_areBeside 49 = .ok (.getfield 19, 3) := by decide +kernel
theorem d_M_areBeside_52 : decode b_M_areBeside 52 = .ok (.iload 5, 2) := by decide +kernel
theorem d_M_areBeside_54 : decode b_M_areBeside 54 = .ok (.iaload, 1) := by decide +kernel
theorem d_M_areBeside_55 : decode b_M_areBeside 55 = .ok (.iload_n 2, 1) := by decide +kernel
theorem d_M_areBeside_56 : decode b_M_areBeside 56 = .ok (.if_icmp .ne 7, 3) := by decide +kernel
theorem d_M_areBeside_59 : decode b_M_areBeside 59 = .ok (.iconst 1, 1) := by decide +kernel
theorem d_M_areBeside_60 : decode b_M_areBeside 60 = .ok (.goto 4, 3) := by decide +kernel
theorem d_M_areBeside_63 : decode b_M_areBeside 63 = .ok (.iconst 0, 1) := by decide +kernel
theorem d_M_areBeside_64 : decode b_M_areBeside 64 = .ok (.istore 6, 2) := by decide +kernel
theorem d_M_areBeside_66 : decode b_M_areBeside 66 = .ok (.iload 4, 2) := by decide +kernel
theorem d_M_areBeside_68 : decode b_M_areBeside 68 = .ok (.ifCond .ne 18, 3) := by decide +kernel
theorem d_M_areBeside_71 : decode b_M_areBeside 71 = .ok (.iload 6, 2) := by decide +kernel
theorem d_M_areBeside_73 : decode b_M_areBeside 73 = .ok (.ifCond .eq 17, 3) := by decide +kernel
theorem d_M_areBeside_76 : decode b_M_areBeside 76 = .ok (.aload_n 1, 1) := by decide +kernel
theorem d_M_areBeside_77 : decode b_M_areBeside 77 = .ok (.bipush 95, 2) := by decide +kernel
theorem d_M_areBeside_79 : decode b_M_areBeside 79 = .ok (.iload 5, 2) := by decide +kernel
theorem d_M_areBeside_81 : decode b_M_areBeside 81 = .ok (.iadd, 1) := by decide +kernel
theorem d_M_areBeside_82 : decode b_M_areBeside 82 = .ok (.iaload, 1) := by decide +kernel
theorem d_M_areBeside_83 : decode b_M_areBeside 83 = .ok (.ifCond .ne 7, 3) := by decide +kernel
theorem d_M_areBeside_86 : decode b_M_areBeside 86 = .ok (.iconst 1, 1) := by decide +kernel
theorem d_M_areBeside_87 : decode b_M_areBeside 87 = .ok (.goto 4, 3) := by decide +kernel
theorem d_M_areBeside_90 : decode b_M_areBeside 90 = .ok (.iconst 0, 1) := by decide +kernel
theorem d_M_areBeside_91 : decode b_M_areBeside 91 = .ok (.istore 4, 2) := by decide +kernel
theorem d_M_areBeside_93 : decode b_M_areBeside 93 = .ok (.iinc 5 1, 3) := by decide +kernel
theorem d_M_areBeside_96 : decode b_M_areBeside 96 = .ok (.goto (-90), 3) := by decide +kernel
theorem d_M_areBeside_99 : decode b_M_areBeside 99 = .ok (.iload 4, 2) := by decide +kernel
theorem d_M_areBeside_101 : decode b_M_areBeside 101 = .ok (.ireturn, 1) := by decide +kernel
abbrev b_M_stampOn : ByteArray := prog_10_method_34_code
abbrev y_M_stampOn : MethodName := ⟨"TimeFloodModel", "stampOn", "([III)V"⟩
theorem m_M_stampOn : MWV y_M_stampOn b_M_stampOn 6 none 3 := ⟨wd_953, wp_39, wd_9, wd_954, by decide, by decide, by decide +kernel⟩
theorem d_M_stampOn_0 : decode b_M_stampOn 0 = .ok (.bipush 19, 2) := by decide +kernel
theorem d_M_stampOn_2 : decode b_M_stampOn 2 = .ok (.iload_n 2, 1) := by decide +kernel
theorem d_M_stampOn_3 : decode b_M_stampOn 3 = .ok (.imul, 1) := by decide +kernel
theorem d_M_stampOn_4 : decode b_M_stampOn 4 = .ok (.istore 4, 2) := by decide +kernel
theorem d_M_stampOn_6 : decode b_M_stampOn 6 = .ok (.aload_n 1, 1) := by decide +kernel
theorem d_M_stampOn_7 : decode b_M_stampOn 7 = .ok (.iload 4, 2) := by decide +kernel
theorem d_M_stampOn_9 : decode b_M_stampOn 9 = .ok (.bipush 6, 2) := by decide +kernel
theorem d_M_stampOn_11 : decode b_M_stampOn 11 = .ok (.iadd, 1) := by decide +kernel
theorem d_M_stampOn_12 : decode b_M_stampOn 12 = .ok (.iaload, 1) := by decide +kernel
theorem d_M_stampOn_13 : decode b_M_stampOn 13 = .ok (.iconst 4, 1) := by decide +kernel
theorem d_M_stampOn_14 : decode b_M_stampOn 14 = .ok (.if_icmp .ne 52, 3) := by decide +kernel
theorem d_M_stampOn_17 : decode b_M_stampOn 17 = .ok (.iconst 0, 1) := by decide +kernel
theorem d_M_stampOn_18 : decode b_M_stampOn 18 = .ok (.istore 5, 2) := by decide +kernel
theorem d_M_stampOn_20 : decode b_M_stampOn 20 = .ok (.iload 5, 2) := by decide +kernel
theorem d_M_stampOn_22 : decode b_M_stampOn 22 = .ok (.bipush 9, 2) := by decide +kernel
theorem d_M_stampOn_24 : decode b_M_stampOn 24 = .ok (.if_icmp .ge 31, 3) := by decide +kernel
theorem d_M_stampOn_27 : decode b_M_stampOn 27 = .ok (.aload_n 1, 1) := by decide +kernel
theorem d_M_stampOn_28 : decode b_M_stampOn 28 = .ok (.iload 4, 2) := by decide +kernel
theorem d_M_stampOn_30 : decode b_M_stampOn 30 = .ok (.bipush 7, 2) := by decide +kernel
theorem d_M_stampOn_32 : decode b_M_stampOn 32 = .ok (.iadd, 1) := by decide +kernel
theorem d_M_stampOn_33 : decode b_M_stampOn 33 = .ok (.iload 5, 2) := by decide +kernel
theorem d_M_stampOn_35 : decode b_M_stampOn 35 = .ok (.iadd, 1) := by decide +kernel
theorem d_M_stampOn_36 : decode b_M_stampOn 36 = .ok (.aload_n 1, 1) := by decide +kernel
theorem d_M_stampOn_37 : decode b_M_stampOn 37 = .ok (.iload 4, 2) := by decide +kernel
theorem d_M_stampOn_39 : decode b_M_stampOn 39 = .ok (.bipush 7, 2) := by decide +kernel
theorem d_M_stampOn_41 : decode b_M_stampOn 41 = .ok (.iadd, 1) := by decide +kernel
theorem d_M_stampOn_42 : decode b_M_stampOn 42 = .ok (.iload 5, 2) := by decide +kernel
theorem d_M_stampOn_44 : decode b_M_stampOn 44 = .ok (.iadd, 1) := by decide +kernel
theorem d_M_stampOn_45 : decode b_M_stampOn 45 = .ok (.iconst 3, 1) := by decide +kernel
theorem d_M_stampOn_46 : decode b_M_stampOn 46 = .ok (.iadd, 1) := by decide +kernel
theorem d_M_stampOn_47 : decode b_M_stampOn 47 = .ok (.iaload, 1) := by decide +kernel
theorem d_M_stampOn_48 : decode b_M_stampOn 48 = .ok (.iastore, 1) := by decide +kernel
theorem d_M_stampOn_49 : decode b_M_stampOn 49 = .ok (.iinc 5 1, 3) := by decide +kernel
theorem d_M_stampOn_52 : decode b_M_stampOn 52 = .ok (.goto (-32), 3) := by decide +kernel
theorem d_M_stampOn_55 : decode b_M_stampOn 55 = .ok (.aload_n 1, 1) := by decide +kernel
theorem d_M_stampOn_56 : decode b_M_stampOn 56 = .ok (.iload 4, 2) := by decide +kernel
theorem d_M_stampOn_58 : decode b_M_stampOn 58 = .ok (.bipush 6, 2) := by decide +kernel
theorem d_M_stampOn_60 : decode b_M_stampOn 60 = .ok (.iadd, 1) := by decide +kernel
theorem d_M_stampOn_61 : decode b_M_stampOn 61 = .ok (.dup2, 1) := by decide +kernel
theorem d_M_stampOn_62 : decode b_M_stampOn 62 = .ok (.iaload, 1) := by decide +kernel
theorem d_M_stampOn_63 : decode b_M_stampOn 63 = .ok (.iconst 1, 1) := by decide +kernel
theorem d_M_stampOn_64 : decode b_M_stampOn 64 = .ok (.isub, 1) := by decide +kernel
theorem d_M_stampOn_65 : decode b_M_stampOn 65 = .ok (.iastore, 1) := by decide +kernel
theorem d_M_stampOn_66 : decode b_M_stampOn 66 = .ok (.iload 4, 2) := by decide +kernel
theorem d_M_stampOn_68 : decode b_M_stampOn 68 = .ok (.bipush 7, 2) := by decide +kernel
theorem d_M_stampOn_70 : decode b_M_stampOn 70 = .ok (.iadd, 1) := by decide +kernel
theorem d_M_stampOn_71 : decode b_M_stampOn 71 = .ok (.iconst 3, 1) := by decide +kernel
theorem d_M_stampOn_72 : decode b_M_stampOn 72 = .ok (.aload_n 1, 1) := by decide +kernel
theorem d_M_stampOn_73 : decode b_M_stampOn 73 = .ok (.iload 4, 2) := by decide +kernel
theorem d_M_stampOn_75 : decode b_M_stampOn 75 = .ok (.bipush 6, 2) := by decide +kernel
theorem d_M_stampOn_77 : decode b_M_stampOn 77 = .ok (.iadd, 1) := by decide +kernel
theorem d_M_stampOn_78 : decode b_M_stampOn 78 = .ok (.iaload, 1) := by decide +kernel
theorem d_M_stampOn_79 : decode b_M_stampOn 79 = .ok (.imul, 1) := by decide +kernel
theorem d_M_stampOn_80 : decode b_M_stampOn 80 = .ok (.iadd, 1) := by decide +kernel
theorem d_M_stampOn_81 : decode b_M_stampOn 81 = .ok (.istore 5, 2) := by decide +kernel
theorem d_M_stampOn_83 : decode b_M_stampOn 83 = .ok (.aload_n 1, 1) := by decide +kernel
theorem d_M_stampOn_84 : decode b_M_stampOn 84 = .ok (.iload 5, 2) := by decide +kernel
theorem d_M_stampOn_86 : decode b_M_stampOn 86 = .ok (.aload_n 0, 1) := by decide +kernel
theorem d_M_stampOn_87 : decode b_M_stampOn 87 = .ok (.aload_n 1, 1) := by decide +kernel
theorem d_M_stampOn_88 : decode b_M_stampOn 88 = .ok (.iload_n 2, 1) := by decide +kernel
theorem d_M_stampOn_89 : decode b_M_stampOn 89 = .ok (.invokevirtual 182, 3) := by decide +kernel
theorem d_M_stampOn_92 : decode b_M_stampOn 92 = .ok (.iastore, 1) := by decide +kernel
theorem d_M_stampOn_93 : decode b_M_stampOn 93 = .ok (.aload_n 1, 1) := by decide +kernel
theorem d_M_stampOn_94 : decode b_M_stampOn 94 = .ok (.iload 5, 2) := by decide +kernel
theorem d_M_stampOn_96 : decode b_M_stampOn 96 = .ok (.iconst 1, 1) := by decide +kernel
theorem d_M_stampOn_97 : decode b_M_stampOn 97 = .ok (.iadd, 1) := by decide +kernel
theorem d_M_stampOn_98 : decode b_M_stampOn 98 = .ok (.iload_n 3, 1) := by decide +kernel
theorem d_M_stampOn_99 : decode b_M_stampOn 99 = .ok (.iastore, 1) := by decide +kernel
theorem d_M_stampOn_100 : decode b_M_stampOn 100 = .ok (.aload_n 1, 1) := by decide +kernel
theorem d_M_stampOn_101 : decode b_M_stampOn 101 = .ok (.iload 5, 2) := by decide +kernel
theorem d_M_stampOn_103 : decode b_M_stampOn 103 = .ok (.iconst 2, 1) := by decide +kernel
theorem d_M_stampOn_104 : decode b_M_stampOn 104 = .ok (.iadd, 1) := by decide +kernel
theorem d_M_stampOn_105 : decode b_M_stampOn 105 = .ok (.iconst 0, 1) := by decide +kernel
theorem d_M_stampOn_106 : decode b_M_stampOn 106 = .ok (.iastore, 1) := by decide +kernel
theorem d_M_stampOn_107 : decode b_M_stampOn 107 = .ok (.aload_n 1, 1) := by decide +kernel
theorem d_M_stampOn_108 : decode b_M_stampOn 108 = .ok (.iload 4, 2) := by decide +kernel
theorem d_M_stampOn_110 : decode b_M_stampOn 110 = .ok (.bipush 6, 2) := by decide +kernel
theorem d_M_stampOn_112 : decode b_M_stampOn 112 = .ok (.iadd, 1) := by decide +kernel
theorem d_M_stampOn_113 : decode b_M_stampOn 113 = .ok (.dup2, 1) := by decide +kernel
theorem d_M_stampOn_114 : decode b_M_stampOn 114 = .ok (.iaload, 1) := by decide +kernel
theorem d_M_stampOn_115 : decode b_M_stampOn 115 = .ok (.iconst 1, 1) := by decide +kernel
theorem d_M_stampOn_116 : decode b_M_stampOn 116 = .ok (.iadd, 1) := by decide +kernel
theorem d_M_stampOn_117 : decode b_M_stampOn 117 = .ok (.iastore, 1) := by decide +kernel
theorem d_M_stampOn_118 : decode b_M_stampOn 118 = .ok (.return_, 1) := by decide +kernel
abbrev b_M_hear : ByteArray := prog_10_method_35_code
abbrev y_M_hear : MethodName := ⟨"TimeFloodModel", "hear", "([III)V"⟩
theorem m_M_hear : MWV y_M_hear b_M_hear 10 none 3 := ⟨wd_948, wp_38, wd_9, wd_949, by decide, by decide, by decide +kernel⟩
theorem d_M_hear_0 : decode b_M_hear 0 = .ok (.bipush 19, 2) := by decide +kernel
theorem d_M_hear_2 : decode b_M_hear 2 = .ok (.iload_n 2, 1) := by decide +kernel
theorem d_M_hear_3 : decode b_M_hear 3 = .ok (.imul, 1) := by decide +kernel
theorem d_M_hear_4 : decode b_M_hear 4 = .ok (.istore 4, 2) := by decide +kernel
theorem d_M_hear_6 : decode b_M_hear 6 = .ok (.aload_n 1, 1) := by decide +kernel
theorem d_M_hear_7 : decode b_M_hear 7 = .ok (.iload 4, 2) := by decide +kernel
theorem d_M_hear_9 : decode b_M_hear 9 = .ok (.iconst 2, 1) := by decide +kernel
theorem d_M_hear_10 : decode b_M_hear 10 = .ok (.iadd, 1) := by decide +kernel
theorem d_M_hear_11 : decode b_M_hear 11 = .ok (.iaload, 1) := by decide +kernel
theorem d_M_hear_12 : decode b_M_hear 12 = .ok (.istore 5, 2) := by decide +kernel
theorem d_M_hear_14 : decode b_M_hear 14 = .ok (.aload_n 0, 1) := by decide +kernel
theorem d_M_hear_15 : decode b_M_hear 15 = .ok (.getfield 50, 3) := by decide +kernel
theorem d_M_hear_18 : decode b_M_hear 18 = .ok (.iload_n 3, 1) := by decide +kernel
theorem d_M_hear_19 : decode b_M_hear 19 = .ok (.iaload, 1) := by decide +kernel
theorem d_M_hear_20 : decode b_M_hear 20 = .ok (.istore 6, 2) := by decide +kernel
theorem d_M_hear_22 : decode b_M_hear 22 = .ok (.iload 5, 2) := by decide +kernel
theorem d_M_hear_24 : decode b_M_hear 24 = .ok (.bipush (-9), 2) := by decide +kernel
theorem d_M_hear_26 : decode b_M_hear 26 = .ok (.if_icmp .eq 25, 3) := by decide +kernel
theorem d_M_hear_29 : decode b_M_hear 29 = .ok (.iload 6, 2) := by decide +kernel
theorem d_M_hear_31 : decode b_M_hear 31 = .ok (.iload 5, 2) := by decide +kernel
theorem d_M_hear_33 : decode b_M_hear 33 = .ok (.if_icmp .ge 22, 3) := by decide +kernel
theorem d_M_hear_36 : decode b_M_hear 36 = .ok (.iload 5, 2) := by decide +kernel
theorem d_M_hear_38 : decode b_M_hear 38 = .ok (.iload_n 2, 1) := by decide +kernel
theorem d_M_hear_39 : decode b_M_hear 39 = .ok (.if_icmp .ne 12, 3) := by decide +kernel
theorem d_M_hear_42 : decode b_M_hear 42 = .ok (.aload_n 1, 1) := by decide +kernel
theorem d_M_hear_43 : decode b_M_hear 43 = .ok (.iload 4, 2) := by decide +kernel
theorem d_M_hear_45 : decode b_M_hear 45 = .ok (.iconst 5, 1) := by decide +kernel
theorem d_M_hear_46 : decode b_M_hear 46 = .ok (.iadd, 1) := by decide +kernel
theorem d_M_hear_47 : decode b_M_hear 47 = .ok (.iaload, 1) := by decide +kernel
theorem d_M_hear_48 : decode b_M_hear 48 = .ok (.ifCond .ne 7, 3) := by decide +kernel
theorem d_M_hear_51 : decode b_M_hear 51 = .ok (.iconst 1, 1) := by decide +kernel
theorem d_M_hear_52 : decode b_M_hear 52 = .ok (.goto 4, 3) := by decide +kernel
theorem d_M_hear_55 : decode b_M_hear 55 = .ok (.iconst 0, 1) := by decide +kernel
theorem d_M_hear_56 : decode b_M_hear 56 = .ok (.istore 7, 2) := by decide +kernel
theorem d_M_hear_58 : decode b_M_hear 58 = .ok (.aload_n 0, 1) := by decide +kernel
theorem d_M_hear_59 : decode b_M_hear 59 = .ok (.getfield 53, 3) := by decide +kernel
theorem d_M_hear_62 : decode b_M_hear 62 = .ok (.iload_n 3, 1) := by decide +kernel
theorem d_M_hear_63 : decode b_M_hear 63 = .ok (.iaload, 1) := by decide +kernel
theorem d_M_hear_64 : decode b_M_hear 64 = .ok (.aload_n 1, 1) := by decide +kernel
theorem d_M_hear_65 : decode b_M_hear 65 = .ok (.iload 4, 2) := by decide +kernel
theorem d_M_hear_67 : decode b_M_hear 67 = .ok (.iconst 3, 1) := by decide +kernel
theorem d_M_hear_68 : decode b_M_hear 68 = .ok (.iadd, 1) := by decide +kernel
theorem d_M_hear_69 : decode b_M_hear 69 = .ok (.iaload, 1) := by decide +kernel
theorem d_M_hear_70 : decode b_M_hear 70 = .ok (.isub, 1) := by decide +kernel
theorem d_M_hear_71 : decode b_M_hear 71 = .ok (.bipush 64, 2) := by decide +kernel
theorem d_M_hear_73 : decode b_M_hear 73 = .ok (.iadd, 1) := by decide +kernel
theorem d_M_hear_74 : decode b_M_hear 74 = .ok (.bipush 64, 2) := by decide +kernel
theorem d_M_hear_76 : decode b_M_hear 76 = .ok (.irem, 1) := by decide +kernel
theorem d_M_hear_77 : decode b_M_hear 77 = .ok (.istore 8, 2) := by decide +kernel
theorem d_M_hear_79 : decode b_M_hear 79 = .ok (.iload 6, 2) := by decide +kernel
theorem d_M_hear_81 : decode b_M_hear 81 = .ok (.iload 5, 2) := by decide +kernel
theorem d_M_hear_83 : decode b_M_hear 83 = .ok (.if_icmp .ne 26, 3) := by decide +kernel
theorem d_M_hear_86 : decode b_M_hear 86 = .ok (.iload 6, 2) := by decide +kernel
theorem d_M_hear_88 : decode b_M_hear 88 = .ok (.iload_n 2, 1) := by decide +kernel
theorem d_M_hear_89 : decode b_M_hear 89 = .ok (.if_icmp .eq 20, 3) := by decide +kernel
theorem d_M_hear_92 : decode b_M_hear 92 = .ok (.iload 8, 2) := by decide +kernel
theorem d_M_hear_94 : decode b_M_hear 94 = .ok (.i2l, 1) := by decide +kernel
theorem d_M_hear_95 : decode b_M_hear 95 = .ok (.lconst 1, 1) := by decide +kernel
theorem d_M_hear_96 : decode b_M_hear 96 = .ok (.ldc2_w 195, 3) := by decide +kernel
theorem d_M_hear_99 : decode b_M_hear 99 = .ok (.invokestatic 97, 3) := by decide +kernel
theorem d_M_hear_102 : decode b_M_hear 102 = .ok (.ifCond .eq 7, 3) := by decide +kernel
theorem d_M_hear_105 : decode b_M_hear 105 = .ok (.iconst 1, 1) := by decide +kernel
theorem d_M_hear_106 : decode b_M_hear 106 = .ok (.goto 4, 3) := by decide +kernel
theorem d_M_hear_109 : decode b_M_hear 109 = .ok (.iconst 0, 1) := by decide +kernel
theorem d_M_hear_110 : decode b_M_hear 110 = .ok (.istore 9, 2) := by decide +kernel
theorem d_M_hear_112 : decode b_M_hear 112 = .ok (.iload 7, 2) := by decide +kernel
theorem d_M_hear_114 : decode b_M_hear 114 = .ok (.ifCond .ne 9, 3) := by decide +kernel
theorem d_M_hear_117 : decode b_M_hear 117 = .ok (.iload 9, 2) := by decide +kernel
theorem d_M_hear_119 : decode b_M_hear 119 = .ok (.ifCond .ne 4, 3) := by decide +kernel
theorem d_M_hear_122 : decode b_M_hear 122 = .ok (.return_, 1) := by decide +kernel
theorem d_M_hear_123 : decode b_M_hear 123 = .ok (.iload 7, 2) := by decide +kernel
theorem d_M_hear_125 : decode b_M_hear 125 = .ok (.ifCond .eq 19, 3) := by decide +kernel
theorem d_M_hear_128 : decode b_M_hear 128 = .ok (.aload_n 1, 1) := by decide +kernel
theorem d_M_hear_129 : decode b_M_hear 129 = .ok (.iload 4, 2) := by decide +kernel
theorem d_M_hear_131 : decode b_M_hear 131 = .ok (.iconst 2, 1) := by decide +kernel
theorem d_M_hear_132 : decode b_M_hear 132 = .ok (.iadd, 1) := by decide +kernel
theorem d_M_hear_133 : decode b_M_hear 133 = .ok (.iload 6, 2) := by decide +kernel
theorem d_M_hear_135 : decode b_M_hear 135 = .ok (.iastore, 1) := by decide +kernel
theorem d_M_hear_136 : decode b_M_hear 136 = .ok (.aload_n 1, 1) := by decide +kernel
theorem d_M_hear_137 : decode b_M_hear 137 = .ok (.iload 4, 2) := by decide +kernel
theorem d_M_hear_139 : decode b_M_hear 139 = .ok (.bipush 6, 2) := by decide +kernel
theorem d_M_hear_141 : decode b_M_hear 141 = .ok (.iadd, 1) := by decide +kernel
theorem d_M_hear_142 : decode b_M_hear 142 = .ok (.iconst 0, 1) := by decide +kernel
theorem d_M_hear_143 : decode b_M_hear 143 = .ok (.iastore, 1) := by decide +kernel
theorem d_M_hear_144 : decode b_M_hear 144 = .ok (.aload_n 1, 1) := by decide +kernel
theorem d_M_hear_145 : decode b_M_hear 145 = .ok (.iload 4, 2) := by decide +kernel
theorem d_M_hear_147 : decode b_M_hear 147 = .ok (.iconst 3, 1) := by decide +kernel
theorem d_M_hear_148 : decode b_M_hear 148 = .ok (.iadd, 1) := by decide +kernel
theorem d_M_hear_149 : decode b_M_hear 149 = .ok (.aload_n 0, 1) := by decide +kernel
theorem d_M_hear_150 : decode b_M_hear 150 = .ok (.getfield 53, 3) := by decide +kernel
theorem d_M_hear_153 : decode b_M_hear 153 = .ok (.iload_n 3, 1) := by decide +kernel
theorem d_M_hear_154 : decode b_M_hear 154 = .ok (.iaload, 1) := by decide +kernel
theorem d_M_hear_155 : decode b_M_hear 155 = .ok (.iastore, 1) := by decide +kernel
theorem d_M_hear_156 : decode b_M_hear 156 = .ok (.aload_n 1, 1) := by decide +kernel
theorem d_M_hear_157 : decode b_M_hear 157 = .ok (.iload 4, 2) := by decide +kernel
theorem d_M_hear_159 : decode b_M_hear 159 = .ok (.iconst 4, 1) := by decide +kernel
theorem d_M_hear_160 : decode b_M_hear 160 = .ok (.iadd, 1) := by decide +kernel
theorem d_M_hear_161 : decode b_M_hear 161 = .ok (.iconst 0, 1) := by decide +kernel
theorem d_M_hear_162 : decode b_M_hear 162 = .ok (.iastore, 1) := by decide +kernel
theorem d_M_hear_163 : decode b_M_hear 163 = .ok (.aload_n 0, 1) := by decide +kernel
theorem d_M_hear_164 : decode b_M_hear 164 = .ok (.aload_n 1, 1) := by decide +kernel
theorem d_M_hear_165 : decode b_M_hear 165 = .ok (.iload_n 2, 1) := by decide +kernel
theorem d_M_hear_166 : decode b_M_hear 166 = .ok (.aload_n 0, 1) := by decide +kernel
theorem d_M_hear_167 : decode b_M_hear 167 = .ok (.getfield 56, 3) := by decide +kernel
theorem d_M_hear_170 : decode b_M_hear 170 = .ok (.iload_n 3, 1) := by decide +kernel
theorem d_M_hear_171 : decode b_M_hear 171 = .ok (.iaload, 1) := by decide +kernel
theorem d_M_hear_172 : decode b_M_hear 172 = .ok (.invokevirtual 197, 3) := by decide +kernel
theorem d_M_hear_175 : decode b_M_hear 175 = .ok (.return_, 1) := by decide +kernel
abbrev b_M_goOn : ByteArray := prog_10_method_36_code
abbrev y_M_goOn : MethodName := ⟨"TimeFloodModel", "goOn", "([I)V"⟩
theorem m_M_goOn : MWV y_M_goOn b_M_goOn 4 none 1 := ⟨wd_928, wp_33, wd_9, wd_929, by decide, by decide, by decide +kernel⟩
theorem d_M_goOn_0 : decode b_M_goOn 0 = .ok (.aload_n 1, 1) := by decide +kernel
theorem d_M_goOn_1 : decode b_M_goOn 1 = .ok (.bipush 102, 2) := by decide +kernel
theorem d_M_goOn_3 : decode b_M_goOn 3 = .ok (.dup2, 1) := by decide +kernel
theorem d_M_goOn_4 : decode b_M_goOn 4 = .ok (.iaload, 1) := by decide +kernel
theorem d_M_goOn_5 : decode b_M_goOn 5 = .ok (.aload_n 0, 1) := by decide +kernel
theorem d_M_goOn_6 : decode b_M_goOn 6 = .ok (.getfield 77, 3) := by decide +kernel
theorem d_M_goOn_9 : decode b_M_goOn 9 = .ok (.iadd, 1) := by decide +kernel
theorem d_M_goOn_10 : decode b_M_goOn 10 = .ok (.iastore, 1) := by decide +kernel
theorem d_M_goOn_11 : decode b_M_goOn 11 = .ok (.iconst 0, 1) := by decide +kernel
theorem d_M_goOn_12 : decode b_M_goOn 12 = .ok (.istore_n 2, 1) := by decide +kernel
theorem d_M_goOn_13 : decode b_M_goOn 13 = .ok (.iload_n 2, 1) := by decide +kernel
theorem d_M_goOn_14 : decode b_M_goOn 14 = .ok (.aload_n 0, 1) := by decide +kernel
theorem d_M_goOn_15 : decode b_M_goOn 15 = .ok (.getfield 94, 3) := by decide +kernel
theorem d_M_goOn_18 : decode b_M_goOn 18 = .ok (.if_icmp .ge 27, 3) := by decide +kernel
theorem d_M_goOn_21 : decode b_M_goOn 21 = .ok (.aload_n 1, 1) := by decide +kernel
theorem d_M_goOn_22 : decode b_M_goOn 22 = .ok (.bipush 19, 2) := by decide +kernel
theorem d_M_goOn_24 : decode b_M_goOn 24 = .ok (.iload_n 2, 1) := by decide +kernel
theorem d_M_goOn_25 : decode b_M_goOn 25 = .ok (.imul, 1) := by decide +kernel
theorem d_M_goOn_26 : decode b_M_goOn 26 = .ok (.iconst 0, 1) := by decide +kernel
theorem d_M_goOn_27 : decode b_M_goOn 27 = .ok (.iadd, 1) := by decide +kernel
theorem d_M_goOn_28 : decode b_M_goOn 28 = .ok (.iaload, 1) := by decide +kernel
theorem d_M_goOn_29 : decode b_M_goOn 29 = .ok (.iconst 1, 1) := by decide +kernel
theorem d_M_goOn_30 : decode b_M_goOn 30 = .ok (.if_icmp .ne 9, 3) := by decide +kernel
theorem d_M_goOn_33 : decode b_M_goOn 33 = .ok (.aload_n 0, 1) := by decide +kernel
theorem d_M_goOn_34 : decode b_M_goOn 34 = .ok (.aload_n 1, 1) := by decide +kernel
theorem d_M_goOn_35 : decode b_M_goOn 35 = .ok (.iload_n 2, 1) := by decide +kernel
theorem d_M_goOn_36 : decode b_M_goOn 36 = .ok (.invokevirtual 201, 3) := by decide +kernel
theorem d_M_goOn_39 : decode b_M_goOn 39 = .ok (.iinc 2 1, 3) := by decide +kernel
theorem d_M_goOn_42 : decode b_M_goOn 42 = .ok (.goto (-29), 3) := by decide +kernel
theorem d_M_goOn_45 : decode b_M_goOn 45 = .ok (.aload_n 0, 1) := by decide +kernel
theorem d_M_goOn_46 : decode b_M_goOn 46 = .ok (.aload_n 1, 1) := by decide +kernel
theorem d_M_goOn_47 : decode b_M_goOn 47 = .ok (.invokevirtual 204, 3) := by decide +kernel
theorem d_M_goOn_50 : decode b_M_goOn 50 = .ok (.iconst 0, 1) := by decide +kernel
theorem d_M_goOn_51 : decode b_M_goOn 51 = .ok (.istore_n 2, 1) := by decide +kernel
theorem d_M_goOn_52 : decode b_M_goOn 52 = .ok (.iload_n 2, 1) := by decide +kernel
theorem d_M_goOn_53 : decode b_M_goOn 53 = .ok (.aload_n 0, 1) := by decide +kernel
theorem d_M_goOn_54 : decode b_M_goOn 54 = .ok (.getfield 94, 3) := by decide +kernel
theorem d_M_goOn_57 : decode b_M_goOn 57 = .ok (.if_icmp .ge 63, 3) := by decide +kernel
theorem d_M_goOn_60 : decode b_M_goOn 60 = .ok (.iconst 0, 1) := by decide +kernel
theorem d_M_goOn_61 : decode b_M_goOn 61 = .ok (.istore_n 3, 1) := by decide +kernel
theorem d_M_goOn_62 : decode b_M_goOn 62 = .ok (.iload_n 3, 1) := by decide +kernel
theorem d_M_goOn_63 : decode b_M_goOn 63 = .ok (.aload_n 0, 1) := by decide +kernel
theorem d_M_goOn_64 : decode b_M_goOn 64 = .ok (.getfield 94, 3) := by decide +kernel
theorem d_M_goOn_67 : decode b_M_goOn 67 = .ok (.if_icmp .ge 47, 3) := by decide +kernel
theorem d_M_goOn_70 : decode b_M_goOn 70 = .ok (.aload_n 1, 1) := by decide +kernel
theorem d_M_goOn_71 : decode b_M_goOn 71 = .ok (.bipush 19, 2) := by decide +kernel
theorem d_M_goOn_73 : decode b_M_goOn 73 = .ok (.iload_n 2, 1) := by decide +kernel
theorem d_M_goOn_74 : decode b_M_goOn 74 = .ok (.imul, 1) := by decide +kernel
theorem d_M_goOn_75 : decode b_M_goOn 75 = .ok (.iconst 0, 1) := by decide +kernel
theorem d_M_goOn_76 : decode b_M_goOn 76 = .ok (.iadd, 1) := by decide +kernel
theorem d_M_goOn_77 : decode b_M_goOn 77 = .ok (.iaload, 1) := by decide +kernel
theorem d_M_goOn_78 : decode b_M_goOn 78 = .ok (.iconst 1, 1) := by decide +kernel
theorem d_M_goOn_79 : decode b_M_goOn 79 = .ok (.if_icmp .ne 35, 3) := by decide +kernel
theorem d_M_goOn_82 : decode b_M_goOn 82 = .ok (.aload_n 0, 1) := by decide +kernel
theorem d_M_goOn_83 : decode b_M_goOn 83 = .ok (.getfield 47, 3) := by decide +kernel
theorem d_M_goOn_86 : decode b_M_goOn 86 = .ok (.iload_n 3, 1) := by decide +kernel
theorem d_M_goOn_87 : decode b_M_goOn 87 = .ok (.baload, 1) := by decide +kernel
theorem d_M_goOn_88 : decode b_M_goOn 88 = .ok (.ifCond .eq 20, 3) := by decide +kernel
theorem d_M_goOn_91 : decode b_M_goOn 91 = .ok (.aload_n 0, 1) := by decide +kernel
theorem d_M_goOn_92 : decode b_M_goOn 92 = .ok (.aload_n 1, 1) := by decide +kernel
theorem d_M_goOn_93 : decode b_M_goOn 93 = .ok (.iload_n 2, 1) := by decide +kernel
theorem d_M_goOn_94 : decode b_M_goOn 94 = .ok (.iload_n 3, 1) := by decide +kernel
theorem d_M_goOn_95 : decode b_M_goOn 95 = .ok (.invokevirtual 208, 3) := by decide +kernel
theorem d_M_goOn_98 : decode b_M_goOn 98 = .ok (.ifCond .eq 10, 3) := by decide +kernel
theorem d_M_goOn_101 : decode b_M_goOn 101 = .ok (.aload_n 0, 1) := by decide +kernel
theorem d_M_goOn_102 : decode b_M_goOn 102 = .ok (.aload_n 1, 1) := by decide +kernel
theorem d_M_goOn_103 : decode b_M_goOn 103 = .ok (.iload_n 2, 1) := by decide +kernel
theorem d_M_goOn_104 : decode b_M_goOn 104 = .ok (.iload_n 3, 1) := by decide +kernel
theorem d_M_goOn_105 : decode b_M_goOn 105 = .ok (.invokevirtual 212, 3) := by decide +kernel
theorem d_M_goOn_108 : decode b_M_goOn 108 = .ok (.iinc 3 1, 3) := by decide +kernel
theorem d_M_goOn_111 : decode b_M_goOn 111 = .ok (.goto (-49), 3) := by decide +kernel
theorem d_M_goOn_114 : decode b_M_goOn 114 = .ok (.iinc 2 1, 3) := by decide +kernel
theorem d_M_goOn_117 : decode b_M_goOn 117 = .ok (.goto (-65), 3) := by decide +kernel
theorem d_M_goOn_120 : decode b_M_goOn 120 = .ok (.return_, 1) := by decide +kernel
abbrev b_M_tryPeriods : ByteArray := prog_10_method_37_code
abbrev y_M_tryPeriods : MethodName := ⟨"TimeFloodModel", "tryPeriods", "(I)V"⟩
theorem m_M_tryPeriods : MWV y_M_tryPeriods b_M_tryPeriods 3 none 1 := ⟨wd_988, wp_40, wd_9, wd_989, by decide, by decide, by decide +kernel⟩
theorem d_M_tryPeriods_0 : decode b_M_tryPeriods 0 = .ok (.iconst 0, 1) := by decide +kernel
theorem d_M_tryPeriods_1 : decode b_M_tryPeriods 1 = .ok (.istore_n 2, 1) := by decide +kernel
theorem d_M_tryPeriods_2 : decode b_M_tryPeriods 2 = .ok (.iload_n 2, 1) := by decide +kernel
theorem d_M_tryPeriods_3 : decode b_M_tryPeriods 3 = .ok (.iload_n 1, 1) := by decide +kernel
theorem d_M_tryPeriods_4 : decode b_M_tryPeriods 4 = .ok (.if_icmp .ge 17, 3) := by decide +kernel
theorem d_M_tryPeriods_7 : decode b_M_tryPeriods 7 = .ok (.aload_n 0, 1) := by decide +kernel
theorem d_M_tryPeriods_8 : decode b_M_tryPeriods 8 = .ok (.aload_n 0, 1) := by decide +kernel
theorem d_M_tryPeriods_9 : decode b_M_tryPeriods 9 = .ok (.getfield 25, 3) := by decide +kernel
theorem d_M_tryPeriods_12 : decode b_M_tryPeriods 12 = .ok (.invokevirtual 215, 3) := by decide +kernel
theorem d_M_tryPeriods_15 : decode b_M_tryPeriods 15 = .ok (.iinc 2 1, 3) := by decide +kernel
theorem d_M_tryPeriods_18 : decode b_M_tryPeriods 18 = .ok (.goto (-16), 3) := by decide +kernel
theorem d_M_tryPeriods_21 : decode b_M_tryPeriods 21 = .ok (.return_, 1) := by decide +kernel
abbrev b_M_isOn : ByteArray := prog_10_method_38_code
abbrev y_M_isOn : MethodName := ⟨"TimeFloodModel", "isOn", "([II)Z"⟩
theorem m_M_isOn : MWS y_M_isOn b_M_isOn 2 (Option.some FieldType.boolean) 2 := ⟨wd_850, wd_9, wd_851, by decide, by decide, by decide +kernel⟩
theorem d_M_isOn_0 : decode b_M_isOn 0 = .ok (.aload_n 0, 1) := by decide +kernel
theorem d_M_isOn_1 : decode b_M_isOn 1 = .ok (.bipush 19, 2) := by decide +kernel
theorem d_M_isOn_3 : decode b_M_isOn 3 = .ok (.iload_n 1, 1) := by decide +kernel
theorem d_M_isOn_4 : decode b_M_isOn 4 = .ok (.imul, 1) := by decide +kernel
theorem d_M_isOn_5 : decode b_M_isOn 5 = .ok (.iconst 0, 1) := by decide +kernel
theorem d_M_isOn_6 : decode b_M_isOn 6 = .ok (.iadd, 1) := by decide +kernel
theorem d_M_isOn_7 : decode b_M_isOn 7 = .ok (.iaload, 1) := by decide +kernel
theorem d_M_isOn_8 : decode b_M_isOn 8 = .ok (.iconst 1, 1) := by decide +kernel
theorem d_M_isOn_9 : decode b_M_isOn 9 = .ok (.if_icmp .ne 7, 3) := by decide +kernel
theorem d_M_isOn_12 : decode b_M_isOn 12 = .ok (.iconst 1, 1) := by decide +kernel
theorem d_M_isOn_13 : decode b_M_isOn 13 = .ok (.goto 4, 3) := by decide +kernel
theorem d_M_isOn_16 : decode b_M_isOn 16 = .ok (.iconst 0, 1) := by decide +kernel
theorem d_M_isOn_17 : decode b_M_isOn 17 = .ok (.ireturn, 1) := by decide +kernel
abbrev b_M_missOf : ByteArray := prog_10_method_39_code
abbrev y_M_missOf : MethodName := ⟨"TimeFloodModel", "missOf", "([II)I"⟩
theorem m_M_missOf : MWV y_M_missOf b_M_missOf 5 (Option.some FieldType.int) 2 := ⟨wd_858, wp_24, wd_9, wd_859, by decide, by decide, by decide +kernel⟩
theorem d_M_missOf_0 : decode b_M_missOf 0 = .ok (.aload_n 1, 1) := by decide +kernel
theorem d_M_missOf_1 : decode b_M_missOf 1 = .ok (.bipush 19, 2) := by decide +kernel
theorem d_M_missOf_3 : decode b_M_missOf 3 = .ok (.iload_n 2, 1) := by decide +kernel
theorem d_M_missOf_4 : decode b_M_missOf 4 = .ok (.imul, 1) := by decide +kernel
theorem d_M_missOf_5 : decode b_M_missOf 5 = .ok (.iconst 2, 1) := by decide +kernel
theorem d_M_missOf_6 : decode b_M_missOf 6 = .ok (.iadd, 1) := by decide +kernel
theorem d_M_missOf_7 : decode b_M_missOf 7 = .ok (.iaload, 1) := by decide +kernel
theorem d_M_missOf_8 : decode b_M_missOf 8 = .ok (.istore_n 3, 1) := by decide +kernel
theorem d_M_missOf_9 : decode b_M_missOf 9 = .ok (.aload_n 1, 1) := by decide +kernel
theorem d_M_missOf_10 : decode b_M_missOf 10 = .ok (.iload_n 2, 1) := by decide +kernel
theorem d_M_missOf_11 : decode b_M_missOf 11 = .ok (.invokestatic 218, 3) := by decide +kernel
theorem d_M_missOf_14 : decode b_M_missOf 14 = .ok (.ifCond .eq 9, 3) := by decide +kernel
theorem d_M_missOf_17 : decode b_M_missOf 17 = .ok (.iload_n 3, 1) := by decide +kernel
theorem d_M_missOf_18 : decode b_M_missOf 18 = .ok (.bipush (-9), 2) := by decide +kernel
theorem d_M_missOf_20 : decode b_M_missOf 20 = .ok (.if_icmp .ne 6, 3) := by decide +kernel
theorem d_M_missOf_23 : decode b_M_missOf 23 = .ok (.bipush (-9), 2) := by decide +kernel
theorem d_M_missOf_25 : decode b_M_missOf 25 = .ok (.ireturn, 1) := by decide +kernel
theorem d_M_missOf_26 : decode b_M_missOf 26 = .ok (.aload_n 0, 1) := by decide +kernel
theorem d_M_missOf_27 : decode b_M_missOf 27 = .ok (.aload_n 1, 1) := by decide +kernel
theorem d_M_missOf_28 : decode b_M_missOf 28 = .ok (.iload_n 2, 1) := by decide +kernel
theorem d_M_missOf_29 : decode b_M_missOf 29 = .ok (.invokevirtual 192, 3) := by decide +kernel
theorem d_M_missOf_32 : decode b_M_missOf 32 = .ok (.istore 4, 2) := by decide +kernel
theorem d_M_missOf_34 : decode b_M_missOf 34 = .ok (.iload 4, 2) := by decide +kernel
theorem d_M_missOf_36 : decode b_M_missOf 36 = .ok (.bipush (-9), 2) := by decide +kernel
theorem d_M_missOf_38 : decode b_M_missOf 38 = .ok (.if_icmp .ne 8, 3) := by decide +kernel
theorem d_M_missOf_41 : decode b_M_missOf 41 = .ok (.bipush (-9), 2) := by decide +kernel
theorem d_M_missOf_43 : decode b_M_missOf 43 = .ok (.goto 20, 3) := by decide +kernel
theorem d_M_missOf_46 : decode b_M_missOf 46 = .ok (.sipush 1000, 3) := by decide +kernel
theorem d_M_missOf_49 : decode b_M_missOf 49 = .ok (.iload 4, 2) := by decide +kernel
theorem d_M_missOf_51 : decode b_M_missOf 51 = .ok (.aload_n 0, 1) := by decide +kernel
theorem d_M_missOf_52 : decode b_M_missOf 52 = .ok (.aload_n 1, 1) := by decide +kernel
theorem d_M_missOf_53 : decode b_M_missOf 53 = .ok (.iload_n 3, 1) := by decide +kernel
theorem d_M_missOf_54 : decode b_M_missOf 54 = .ok (.invokevirtual 182, 3) := by decide +kernel
theorem d_M_missOf_57 : decode b_M_missOf 57 = .ok (.isub, 1) := by decide +kernel
theorem d_M_missOf_58 : decode b_M_missOf 58 = .ok (.i2l, 1) := by decide +kernel
theorem d_M_missOf_59 : decode b_M_missOf 59 = .ok (.invokestatic 186, 3) := by decide +kernel
theorem d_M_missOf_62 : decode b_M_missOf 62 = .ok (.iadd, 1) := by decide +kernel
theorem d_M_missOf_63 : decode b_M_missOf 63 = .ok (.ireturn, 1) := by decide +kernel
abbrev b_M_inTime : ByteArray := prog_10_method_40_code
abbrev y_M_inTime : MethodName := ⟨"TimeFloodModel", "inTime", "([I)I"⟩
theorem m_M_inTime : MWV y_M_inTime b_M_inTime 4 (Option.some FieldType.int) 1 := ⟨wd_854, wp_23, wd_9, wd_855, by decide, by decide, by decide +kernel⟩
theorem d_M_inTime_0 : decode b_M_inTime 0 = .ok (.iconst 0, 1) := by decide +kernel
theorem d_M_inTime_1 : decode b_M_inTime 1 = .ok (.istore_n 2, 1) := by decide +kernel
theorem d_M_inTime_2 : decode b_M_inTime 2 = .ok (.iconst 0, 1) := by decide +kernel
theorem d_M_inTime_3 : decode b_M_inTime 3 = .ok (.istore_n 3, 1) := by decide +kernel
theorem d_M_inTime_4 : decode b_M_inTime 4 = .ok (.iload_n 3, 1) := by decide +kernel
theorem d_M_inTime_5 : decode b_M_inTime 5 = .ok (.aload_n 0, 1) := by decide +kernel
theorem d_M_inTime_6 : decode b_M_inTime 6 = .ok (.getfield 94, 3) := by decide +kernel
theorem d_M_inTime_9 : decode b_M_inTime 9 = .ok (.if_icmp .ge 38, 3) := by decide +kernel
theorem d_M_inTime_12 : decode b_M_inTime 12 = .ok (.iload_n 2, 1) := by decide +kernel
theorem d_M_inTime_13 : decode b_M_inTime 13 = .ok (.aload_n 0, 1) := by decide +kernel
theorem d_M_inTime_14 : decode b_M_inTime 14 = .ok (.aload_n 1, 1) := by decide +kernel
theorem d_M_inTime_15 : decode b_M_inTime 15 = .ok (.iload_n 3, 1) := by decide +kernel
theorem d_M_inTime_16 : decode b_M_inTime 16 = .ok (.invokevirtual 222, 3) := by decide +kernel
theorem d_M_inTime_19 : decode b_M_inTime 19 = .ok (.i2l, 1) := by decide +kernel
theorem d_M_inTime_20 : decode b_M_inTime 20 = .ok (.ldc2_w 225, 3) := by decide +kernel
theorem d_M_inTime_23 : decode b_M_inTime 23 = .ok (.ldc2_w 227, 3) := by decide +kernel
theorem d_M_inTime_26 : decode b_M_inTime 26 = .ok (.invokestatic 97, 3) := by decide +kernel
theorem d_M_inTime_29 : decode b_M_inTime 29 = .ok (.ifCond .eq 9, 3) := by decide +kernel
theorem d_M_inTime_32 : decode b_M_inTime 32 = .ok (.iconst 1, 1) := by decide +kernel
theorem d_M_inTime_33 : decode b_M_inTime 33 = .ok (.iload_n 3, 1) := by decide +kernel
theorem d_M_inTime_34 : decode b_M_inTime 34 = .ok (.ishl, 1) := by decide +kernel
theorem d_M_inTime_35 : decode b_M_inTime 35 = .ok (.goto 4, 3) := by decide +kernel
theorem d_M_inTime_38 : decode b_M_inTime 38 = .ok (.iconst 0, 1) := by decide +kernel
theorem d_M_inTime_39 : decode b_M_inTime 39 = .ok (.ior, 1) := by decide +kernel
theorem d_M_inTime_40 : decode b_M_inTime 40 = .ok (.istore_n 2, 1) := by decide +kernel
theorem d_M_inTime_41 : decode b_M_inTime 41 = .ok (.iinc 3 1, 3) := by decide +kernel
theorem d_M_inTime_44 : decode b_M_inTime 44 = .ok (.goto (-40), 3) := by decide +kernel
theorem d_M_inTime_47 : decode b_M_inTime 47 = .ok (.iload_n 2, 1) := by decide +kernel
theorem d_M_inTime_48 : decode b_M_inTime 48 = .ok (.ireturn, 1) := by decide +kernel
abbrev b_M_isOne : ByteArray := prog_10_method_41_code
abbrev y_M_isOne : MethodName := ⟨"TimeFloodModel", "isOne", "([I)Z"⟩
theorem m_M_isOne : MWV y_M_isOne b_M_isOne 7 (Option.some FieldType.boolean) 1 := ⟨wd_888, wp_28, wd_9, wd_889, by decide, by decide, by decide +kernel⟩
theorem d_M_isOne_0 : decode b_M_isOne 0 = .ok (.bipush (-9), 2) := by decide +kernel
theorem d_M_isOne_2 : decode b_M_isOne 2 = .ok (.istore_n 2, 1) := by decide +kernel
theorem d_M_isOne_3 : decode b_M_isOne 3 = .ok (.iconst 1, 1) := by decide +kernel
theorem d_M_isOne_4 : decode b_M_isOne 4 = .ok (.istore_n 3, 1) := by decide +kernel
theorem d_M_isOne_5 : decode b_M_isOne 5 = .ok (.iconst 0, 1) := by decide +kernel
theorem d_M_isOne_6 : decode b_M_isOne 6 = .ok (.istore 4, 2) := by decide +kernel
theorem d_M_isOne_8 : decode b_M_isOne 8 = .ok (.iconst 0, 1) := by decide +kernel
theorem d_M_isOne_9 : decode b_M_isOne 9 = .ok (.istore 5, 2) := by decide +kernel
theorem d_M_isOne_11 : decode b_M_isOne 11 = .ok (.iload 5, 2) := by decide +kernel
theorem d_M_isOne_13 : decode b_M_isOne 13 = .ok (.aload_n 0, 1) := by decide +kernel
theorem d_M_isOne_14 : decode b_M_isOne 14 = .ok (.getfield 94, 3) := by decide +kernel
theorem d_M_isOne_17 : decode b_M_isOne 17 = .ok (.if_icmp .ge 63, 3) := by decide +kernel
theorem d_M_isOne_20 : decode b_M_isOne 20 = .ok (.aload_n 1, 1) := by decide +kernel
theorem d_M_isOne_21 : decode b_M_isOne 21 = .ok (.iload 5, 2) := by decide +kernel
theorem d_M_isOne_23 : decode b_M_isOne 23 = .ok (.invokestatic 218, 3) := by decide +kernel
theorem d_M_isOne_26 : decode b_M_isOne 26 = .ok (.ifCond .eq 48, 3) := by decide +kernel
theorem d_M_isOne_29 : decode b_M_isOne 29 = .ok (.aload_n 1, 1) := by decide +kernel
theorem d_M_isOne_30 : decode b_M_isOne 30 = .ok (.bipush 19, 2) := by decide +kernel
theorem d_M_isOne_32 : decode b_M_isOne 32 = .ok (.iload 5, 2) := by decide +kernel
theorem d_M_isOne_34 : decode b_M_isOne 34 = .ok (.imul, 1) := by decide +kernel
theorem d_M_isOne_35 : decode b_M_isOne 35 = .ok (.iconst 2, 1) := by decide +kernel
theorem d_M_isOne_36 : decode b_M_isOne 36 = .ok (.iadd, 1) := by decide +kernel
theorem d_M_isOne_37 : decode b_M_isOne 37 = .ok (.iaload, 1) := by decide +kernel
theorem d_M_isOne_38 : decode b_M_isOne 38 = .ok (.istore 6, 2) := by decide +kernel
theorem d_M_isOne_40 : decode b_M_isOne 40 = .ok (.iload_n 3, 1) := by decide +kernel
theorem d_M_isOne_41 : decode b_M_isOne 41 = .ok (.ifCond .eq 25, 3) := by decide +kernel
theorem d_M_isOne_44 : decode b_M_isOne 44 = .ok (.iload 6, 2) := by decide +kernel
theorem d_M_isOne_46 : decode b_M_isOne 46 = .ok (.bipush (-9), 2) := by decide +kernel
theorem d_M_isOne_48 : decode b_M_isOne 48 = .ok (.if_icmp .eq 18, 3) := by decide +kernel
theorem d_M_isOne_51 : decode b_M_isOne 51 = .ok (.iload 4, 2) := by decide +kernel
theorem d_M_isOne_53 : decode b_M_isOne 53 = .ok (.ifCond .eq 9, 3) := by decide +kernel
theorem d_M_isOne_56 : decode b_M_isOne 56 = .ok (.iload 6, 2) := by decide +kernel
theorem d_M_isOne_58 : decode b_M_isOne 58 = .ok (.iload_n 2, 1) := by decide +kernel
theorem d_M_isOne_59 : decode b_M_isOne 59 = .ok (.if_icmp .ne 7, 3) := by decide +kernel
theorem d_M_isOne_62 : decode b_M_isOne 62 = .ok (.iconst 1, 1) := by decide +kernel
theorem d_M_isOne_63 : decode b_M_isOne 63 = .ok (.goto 4, 3) := by decide +kernel
theorem d_M_isOne_66 : decode b_M_isOne 66 = .ok (.iconst 0, 1) := by decide +kernel
theorem d_M_isOne_67 : decode b_M_isOne 67 = .ok (.istore_n 3, 1) := by decide +kernel
theorem d_M_isOne_68 : decode b_M_isOne 68 = .ok (.iload 6, 2) := by decide +kernel
theorem d_M_isOne_70 : decode b_M_isOne 70 = .ok (.istore_n 2, 1) := by decide +kernel
theorem d_M_isOne_71 : decode b_M_isOne 71 = .ok (.iconst 1, 1) := by decide +kernel
theorem d_M_isOne_72 : decode b_M_isOne 72 = .ok (.istore 4, 2) := by decide +kernel
theorem d_M_isOne_74 : decode b_M_isOne 74 = .ok (.iinc 5 1, 3) := by decide +kernel
theorem d_M_isOne_77 : decode b_M_isOne 77 = .ok (.goto (-66), 3) := by decide +kernel
theorem d_M_isOne_80 : decode b_M_isOne 80 = .ok (.iload_n 3, 1) := by decide +kernel
theorem d_M_isOne_81 : decode b_M_isOne 81 = .ok (.ireturn, 1) := by decide +kernel
abbrev b_M_those : ByteArray := prog_10_method_42_code
abbrev y_M_those : MethodName := ⟨"TimeFloodModel", "those", "(Z)I"⟩
theorem m_M_those : MWV y_M_those b_M_those 4 (Option.some FieldType.int) 1 := ⟨wd_847, wp_22, wd_9, wd_848, by decide, by decide, by decide +kernel⟩
theorem d_M_those_0 : decode b_M_those 0 = .ok (.iconst 0, 1) := by decide +kernel
theorem d_M_those_1 : decode b_M_those 1 = .ok (.istore_n 2, 1) := by decide +kernel
theorem d_M_those_2 : decode b_M_those 2 = .ok (.iconst 0, 1) := by decide +kernel
theorem d_M_those_3 : decode b_M_those 3 = .ok (.istore_n 3, 1) := by decide +kernel
theorem d_M_those_4 : decode b_M_those 4 = .ok (.iload_n 3, 1) := by decide +kernel
theorem d_M_those_5 : decode b_M_those 5 = .ok (.aload_n 0, 1) := by decide +kernel
theorem d_M_those_6 : decode b_M_those 6 = .ok (.getfield 94, 3) := by decide +kernel
theorem d_M_those_9 : decode b_M_those 9 = .ok (.if_icmp .ge 49, 3) := by decide +kernel
theorem d_M_those_12 : decode b_M_those 12 = .ok (.iload_n 2, 1) := by decide +kernel
theorem d_M_those_13 : decode b_M_those 13 = .ok (.aload_n 0, 1) := by decide +kernel
theorem d_M_those_14 : decode b_M_those 14 = .ok (.getfield 22, 3) := by decide +kernel
theorem d_M_those_17 : decode b_M_those 17 = .ok (.iload_n 3, 1) := by decide +kernel
theorem d_M_those_18 : decode b_M_those 18 = .ok (.invokestatic 218, 3) := by decide +kernel
theorem d_M_those_21 : decode b_M_those 21 = .ok (.ifCond .eq 28, 3) := by decide +kernel
theorem d_M_those_24 : decode b_M_those 24 = .ok (.iload_n 1, 1) := by decide +kernel
theorem d_M_those_25 : decode b_M_those 25 = .ok (.ifCond .eq 18, 3) := by decide +kernel
theorem d_M_those_28 : decode b_M_those 28 = .ok (.aload_n 0, 1) := by decide +kernel
theorem d_M_those_29 : decode b_M_those 29 = .ok (.getfield 22, 3) := by decide +kernel
theorem d_M_those_32 : decode b_M_those 32 = .ok (.bipush 19, 2) := by decide +kernel
theorem d_M_those_34 : decode b_M_those 34 = .ok (.iload_n 3, 1) := by decide +kernel
theorem d_M_those_35 : decode b_M_those 35 = .ok (.imul, 1) := by decide +kernel
theorem d_M_those_36 : decode b_M_those 36 = .ok (.iconst 2, 1) := by decide +kernel
theorem d_M_those_37 : decode b_M_those 37 = .ok (.iadd, 1) := by decide +kernel
theorem d_M_those_38 : decode b_M_those 38 = .ok (.iaload, 1) := by decide +kernel
theorem d_M_those_39 : decode b_M_those 39 = .ok (.iload_n 3, 1) := by decide +kernel
theorem d_M_those_40 : decode b_M_those 40 = .ok (.if_icmp .ne 9, 3) := by decide +kernel
theorem d_M_those_43 : decode b_M_those 43 = .ok (.iconst 1, 1) := by decide +kernel
theorem d_M_those_44 : decode b_M_those 44 = .ok (.iload_n 3, 1) := by decide +kernel
theorem d_M_those_45 : decode b_M_those 45 = .ok (.ishl, 1) := by decide +kernel
theorem d_M_those_46 : decode b_M_those 46 = .ok (.goto 4, 3) := by decide +kernel
theorem d_M_those_49 : decode b_M_those 49 = .ok (.iconst 0, 1) := by decide +kernel
theorem d_M_those_50 : decode b_M_those 50 = .ok (.ior, 1) := by decide +kernel
theorem d_M_those_51 : decode b_M_those 51 = .ok (.istore_n 2, 1) := by decide +kernel
theorem d_M_those_52 : decode b_M_those 52 = .ok (.iinc 3 1, 3) := by decide +kernel
theorem d_M_those_55 : decode b_M_those 55 = .ok (.goto (-51), 3) := by decide +kernel
theorem d_M_those_58 : decode b_M_those 58 = .ok (.iload_n 2, 1) := by decide +kernel
theorem d_M_those_59 : decode b_M_those 59 = .ok (.ireturn, 1) := by decide +kernel
abbrev b_M_downs : ByteArray := prog_10_method_43_code
abbrev y_M_downs : MethodName := ⟨"TimeFloodModel", "downs", "()I"⟩
theorem m_M_downs : MWV y_M_downs b_M_downs 3 (Option.some FieldType.int) 0 := ⟨wd_884, wp_27, wd_9, wd_885, by decide, by decide, by decide +kernel⟩
theorem d_M_downs_0 : decode b_M_downs 0 = .ok (.iconst 0, 1) := by decide +kernel
theorem d_M_downs_1 : decode b_M_downs 1 = .ok (.istore_n 1, 1) := by decide +kernel
theorem d_M_downs_2 : decode b_M_downs 2 = .ok (.iconst 0, 1) := by decide +kernel
theorem d_M_downs_3 : decode b_M_downs 3 = .ok (.istore_n 2, 1) := by decide +kernel
theorem d_M_downs_4 : decode b_M_downs 4 = .ok (.iload_n 2, 1) := by decide +kernel
theorem d_M_downs_5 : decode b_M_downs 5 = .ok (.aload_n 0, 1) := by decide +kernel
theorem d_M_downs_6 : decode b_M_downs 6 = .ok (.getfield 101, 3) := by decide +kernel
theorem d_M_downs_9 : decode b_M_downs 9 = .ok (.if_icmp .ge 23, 3) := by decide +kernel
theorem d_M_downs_12 : decode b_M_downs 12 = .ok (.iload_n 1, 1) := by decide +kernel
theorem d_M_downs_13 : decode b_M_downs 13 = .ok (.aload_n 0, 1) := by decide +kernel
theorem d_M_downs_14 : decode b_M_downs 14 = .ok (.getfield 22, 3) := by decide +kernel
theorem d_M_downs_17 : decode b_M_downs 17 = .ok (.bipush 95, 2) := by decide +kernel
theorem d_M_downs_19 : decode b_M_downs 19 = .ok (.iload_n 2, 1) := by decide +kernel
theorem d_M_downs_20 : decode b_M_downs 20 = .ok (.iadd, 1) := by decide +kernel
theorem d_M_downs_21 : decode b_M_downs 21 = .ok (.iaload, 1) := by decide +kernel
theorem d_M_downs_22 : decode b_M_downs 22 = .ok (.iload_n 2, 1) := by decide +kernel
theorem d_M_downs_23 : decode b_M_downs 23 = .ok (.ishl, 1) := by decide +kernel
theorem d_M_downs_24 : decode b_M_downs 24 = .ok (.ior, 1) := by decide +kernel
theorem d_M_downs_25 : decode b_M_downs 25 = .ok (.istore_n 1, 1) := by decide +kernel
theorem d_M_downs_26 : decode b_M_downs 26 = .ok (.iinc 2 1, 3) := by decide +kernel
theorem d_M_downs_29 : decode b_M_downs 29 = .ok (.goto (-25), 3) := by decide +kernel
theorem d_M_downs_32 : decode b_M_downs 32 = .ok (.iload_n 1, 1) := by decide +kernel
theorem d_M_downs_33 : decode b_M_downs 33 = .ok (.ireturn, 1) := by decide +kernel
abbrev b_M_about : ByteArray := prog_10_method_44_code
abbrev y_M_about : MethodName := ⟨"TimeFloodModel", "about", "(I)I"⟩
theorem m_M_about : MWV y_M_about b_M_about 2 (Option.some FieldType.int) 1 := ⟨wd_842, wd_843, wd_9, wd_844, by decide, by decide, by decide +kernel⟩
theorem d_M_about_0 : decode b_M_about 0 = .ok (.iload_n 1, 1) := by decide +kernel
theorem d_M_about_1 : decode b_M_about 1 = .ok (.tableswitch 162 0 13 #[71, 76, 81, 86, 91, 96, 104, 110, 116, 125, 130, 147, 152, 157], 71) := by decide +kernel
theorem d_M_about_72 : decode b_M_about 72 = .ok (.aload_n 0, 1) := by decide +kernel
theorem d_M_about_73 : decode b_M_about 73 = .ok (.getfield 94, 3) := by decide +kernel
theorem d_M_about_76 : decode b_M_about 76 = .ok (.ireturn, 1) := by decide +kernel
theorem d_M_about_77 : decode b_M_about 77 = .ok (.aload_n 0, 1) := by decide +kernel
theorem d_M_about_78 : decode b_M_about 78 = .ok (.getfield 101, 3) := by decide +kernel
theorem d_M_about_81 : decode b_M_about 81 = .ok (.ireturn, 1) := by decide +kernel
theorem d_M_about_82 : decode b_M_about 82 = .ok (.aload_n 0, 1) := by decide +kernel
theorem d_M_about_83 : decode b_M_about 83 = .ok (.getfield 77, 3) := by decide +kernel
theorem d_M_about_86 : decode b_M_about 86 = .ok (.ireturn, 1) := by decide +kernel
theorem d_M_about_87 : decode b_M_about 87 = .ok (.aload_n 0, 1) := by decide +kernel
theorem d_M_about_88 : decode b_M_about 88 = .ok (.getfield 81, 3) := by decide +kernel
theorem d_M_about_91 : decode b_M_about 91 = .ok (.ireturn, 1) := by decide +kernel
theorem d_M_about_92 : decode b_M_about 92 = .ok (.aload_n 0, 1) := by decide +kernel
theorem d_M_about_93 : decode b_M_about 93 = .ok (.getfield 168, 3) := by decide +kernel
theorem d_M_about_96 : decode b_M_about 96 = .ok (.ireturn, 1) := by decide +kernel
theorem d_M_about_97 : decode b_M_about 97 = .ok (.aload_n 0, 1) := by decide +kernel
theorem d_M_about_98 : decode b_M_about 98 = .ok (.getfield 22, 3) := by decide +kernel
theorem d_M_about_101 : decode b_M_about 101 = .ok (.bipush 102, 2) := by decide +kernel
theorem d_M_about_103 : decode b_M_about 103 = .ok (.iaload, 1) := by decide +kernel
theorem d_M_about_104 : decode b_M_about 104 = .ok (.ireturn, 1) := by decide +kernel
theorem d_M_about_105 : decode b_M_about 105 = .ok (.aload_n 0, 1) := by decide +kernel
theorem d_M_about_106 : decode b_M_about 106 = .ok (.iconst 0, 1) := by decide +kernel
theorem d_M_about_107 : decode b_M_about 107 = .ok (.invokevirtual 229, 3) := by decide +kernel
theorem d_M_about_110 : decode b_M_about 110 = .ok (.ireturn, 1) := by decide +kernel
theorem d_M_about_111 : decode b_M_about 111 = .ok (.aload_n 0, 1) := by decide +kernel
theorem d_M_about_112 : decode b_M_about 112 = .ok (.iconst 1, 1) := by decide +kernel
theorem d_M_about_113 : decode b_M_about 113 = .ok (.invokevirtual 229, 3) := by decide +kernel
theorem d_M_about_116 : decode b_M_about 116 = .ok (.ireturn, 1) := by decide +kernel
theorem d_M_about_117 : decode b_M_about 117 = .ok (.aload_n 0, 1) := by decide +kernel
theorem d_M_about_118 : decode b_M_about 118 = .ok (.aload_n 0, 1) := by decide +kernel
theorem d_M_about_119 : decode b_M_about 119 = .ok (.getfield 22, 3) := by decide +kernel
theorem d_M_about_122 : decode b_M_about 122 = .ok (.invokevirtual 233, 3) := by decide +kernel
theorem d_M_about_125 : decode b_M_about 125 = .ok (.ireturn, 1) := by decide +kernel
theorem d_M_about_126 : decode b_M_about 126 = .ok (.aload_n 0, 1) := by decide +kernel
theorem d_M_about_127 : decode b_M_about 127 = .ok (.invokevirtual 237, 3) := by decide +kernel
theorem d_M_about_130 : decode b_M_about 130 = .ok (.ireturn, 1) := by decide +kernel
theorem d_M_about_131 : decode b_M_about 131 = .ok (.aload_n 0, 1) := by decide +kernel
theorem d_M_about_132 : decode b_M_about 132 = .ok (.aload_n 0, 1) := by decide +kernel
theorem d_M_about_133 : decode b_M_about 133 = .ok (.getfield 22, 3) := by decide +kernel
theorem d_M_about_136 : decode b_M_about 136 = .ok (.invokevirtual 240, 3) := by decide +kernel
theorem d_M_about_139 : decode b_M_about 139 = .ok (.ifCond .eq 7, 3) := by decide +kernel
theorem d_M_about_142 : decode b_M_about 142 = .ok (.iconst 1, 1) := by decide +kernel
theorem d_M_about_143 : decode b_M_about 143 = .ok (.goto 4, 3) := by decide +kernel
theorem d_M_about_146 : decode b_M_about 146 = .ok (.iconst 0, 1) := by decide +kernel
theorem d_M_about_147 : decode b_M_about 147 = .ok (.ireturn, 1) := by decide +kernel
theorem d_M_about_148 : decode b_M_about 148 = .ok (.aload_n 0, 1) := by decide +kernel
theorem d_M_about_149 : decode b_M_about 149 = .ok (.getfield 175, 3) := by decide +kernel
theorem d_M_about_152 : decode b_M_about 152 = .ok (.ireturn, 1) := by decide +kernel
theorem d_M_about_153 : decode b_M_about 153 = .ok (.aload_n 0, 1) := by decide +kernel
theorem d_M_about_154 : decode b_M_about 154 = .ok (.getfield 244, 3) := by decide +kernel
theorem d_M_about_157 : decode b_M_about 157 = .ok (.ireturn, 1) := by decide +kernel
theorem d_M_about_158 : decode b_M_about 158 = .ok (.aload_n 0, 1) := by decide +kernel
theorem d_M_about_159 : decode b_M_about 159 = .ok (.getfield 106, 3) := by decide +kernel
theorem d_M_about_162 : decode b_M_about 162 = .ok (.ireturn, 1) := by decide +kernel
theorem d_M_about_163 : decode b_M_about 163 = .ok (.bipush (-2), 2) := by decide +kernel
theorem d_M_about_165 : decode b_M_about 165 = .ok (.ireturn, 1) := by decide +kernel
abbrev b_M_tell : ByteArray := prog_10_method_45_code
abbrev y_M_tell : MethodName := ⟨"TimeFloodModel", "tell", "([III)I"⟩
theorem m_M_tell : MWV y_M_tell b_M_tell 5 (Option.some FieldType.int) 3 := ⟨wd_900, wp_30, wd_9, wd_901, by decide, by decide, by decide +kernel⟩
theorem d_M_tell_0 : decode b_M_tell 0 = .ok (.bipush 19, 2) := by decide +kernel
theorem d_M_tell_2 : decode b_M_tell 2 = .ok (.iload_n 2, 1) := by decide +kernel
theorem d_M_tell_3 : decode b_M_tell 3 = .ok (.imul, 1) := by decide +kernel
theorem d_M_tell_4 : decode b_M_tell 4 = .ok (.istore 4, 2) := by decide +kernel
theorem d_M_tell_6 : decode b_M_tell 6 = .ok (.iload_n 3, 1) := by decide +kernel
theorem d_M_tell_7 : decode b_M_tell 7 = .ok (.i2l, 1) := by decide +kernel
theorem d_M_tell_8 : decode b_M_tell 8 = .ok (.ldc2_w 247, 3) := by decide +kernel
theorem d_M_tell_11 : decode b_M_tell 11 = .ok (.ldc2_w 249, 3) := by decide +kernel
theorem d_M_tell_14 : decode b_M_tell 14 = .ok (.invokestatic 97, 3) := by decide +kernel
theorem d_M_tell_17 : decode b_M_tell 17 = .ok (.ifCond .eq 14, 3) := by decide +kernel
theorem d_M_tell_20 : decode b_M_tell 20 = .ok (.aload_n 1, 1) := by decide +kernel
theorem d_M_tell_21 : decode b_M_tell 21 = .ok (.iload_n 2, 1) := by decide +kernel
theorem d_M_tell_22 : decode b_M_tell 22 = .ok (.invokestatic 218, 3) := by decide +kernel
theorem d_M_tell_25 : decode b_M_tell 25 = .ok (.ifCond .ne 6, 3) := by decide +kernel
theorem d_M_tell_28 : decode b_M_tell 28 = .ok (.bipush (-9), 2) := by decide +kernel
theorem d_M_tell_30 : decode b_M_tell 30 = .ok (.ireturn, 1) := by decide +kernel
theorem d_M_tell_31 : decode b_M_tell 31 = .ok (.iload_n 3, 1) := by decide +kernel
theorem d_M_tell_32 : decode b_M_tell 32 = .ok (.tableswitch 140 0 10 #[60, 69, 76, 83, 90, 97, 104, 111, 118, 126, 133], 60) := by decide +kernel
theorem d_M_tell_92 : decode b_M_tell 92 = .ok (.aload_n 1, 1) := by decide +kernel
theorem d_M_tell_93 : decode b_M_tell 93 = .ok (.iload 4, 2) := by decide +kernel
theorem d_M_tell_95 : decode b_M_tell 95 = .ok (.iconst 1, 1) := by decide +kernel
theorem d_M_tell_96 : decode b_M_tell 96 = .ok (.iadd, 1) := by decide +kernel
theorem d_M_tell_97 : decode b_M_tell 97 = .ok (.iaload, 1) := by decide +kernel
theorem d_M_tell_98 : decode b_M_tell 98 = .ok (.iconst 4, 1) := by decide +kernel
theorem d_M_tell_99 : decode b_M_tell 99 = .ok (.iadd, 1) := by decide +kernel
theorem d_M_tell_100 : decode b_M_tell 100 = .ok (.ireturn, 1) := by decide +kernel
theorem d_M_tell_101 : decode b_M_tell 101 = .ok (.aload_n 0, 1) := by decide +kernel
theorem d_M_tell_102 : decode b_M_tell 102 = .ok (.getfield 13, 3) := by decide +kernel
theorem d_M_tell_105 : decode b_M_tell 105 = .ok (.iload_n 2, 1) := by decide +kernel
theorem d_M_tell_106 : decode b_M_tell 106 = .ok (.iaload, 1) := by decide +kernel
theorem d_M_tell_107 : decode b_M_tell 107 = .ok (.ireturn, 1) := by decide +kernel
theorem d_M_tell_108 : decode b_M_tell 108 = .ok (.aload_n 0, 1) := by decide +kernel
theorem d_M_tell_109 : decode b_M_tell 109 = .ok (.aload_n 1, 1) := by decide +kernel
theorem d_M_tell_110 : decode b_M_tell 110 = .ok (.iload_n 2, 1) := by decide +kernel
theorem d_M_tell_111 : decode b_M_tell 111 = .ok (.invokevirtual 182, 3) := by decide +kernel
theorem d_M_tell_114 : decode b_M_tell 114 = .ok (.ireturn, 1) := by decide +kernel
theorem d_M_tell_115 : decode b_M_tell 115 = .ok (.aload_n 1, 1) := by decide +kernel
theorem d_M_tell_116 : decode b_M_tell 116 = .ok (.iload 4, 2) := by decide +kernel
theorem d_M_tell_118 : decode b_M_tell 118 = .ok (.iconst 0, 1) := by decide +kernel
theorem d_M_tell_119 : decode b_M_tell 119 = .ok (.iadd, 1) := by decide +kernel
theorem d_M_tell_120 : decode b_M_tell 120 = .ok (.iaload, 1) := by decide +kernel
theorem d_M_tell_121 : decode b_M_tell 121 = .ok (.ireturn, 1) := by decide +kernel
theorem d_M_tell_122 : decode b_M_tell 122 = .ok (.aload_n 1, 1) := by decide +kernel
theorem d_M_tell_123 : decode b_M_tell 123 = .ok (.iload 4, 2) := by decide +kernel
theorem d_M_tell_125 : decode b_M_tell 125 = .ok (.iconst 2, 1) := by decide +kernel
theorem d_M_tell_126 : decode b_M_tell 126 = .ok (.iadd, 1) := by decide +kernel
theorem d_M_tell_127 : decode b_M_tell 127 = .ok (.iaload, 1) := by decide +kernel
theorem d_M_tell_128 : decode b_M_tell 128 = .ok (.ireturn, 1) := by decide +kernel
theorem d_M_tell_129 : decode b_M_tell 129 = .ok (.aload_n 1, 1) := by decide +kernel
theorem d_M_tell_130 : decode b_M_tell 130 = .ok (.iload 4, 2) := by decide +kernel
theorem d_M_tell_132 : decode b_M_tell 132 = .ok (.iconst 3, 1) := by decide +kernel
theorem d_M_tell_133 : decode b_M_tell 133 = .ok (.iadd, 1) := by decide +kernel
theorem d_M_tell_134 : decode b_M_tell 134 = .ok (.iaload, 1) := by decide +kernel
theorem d_M_tell_135 : decode b_M_tell 135 = .ok (.ireturn, 1) := by decide +kernel
theorem d_M_tell_136 : decode b_M_tell 136 = .ok (.aload_n 1, 1) := by decide +kernel
theorem d_M_tell_137 : decode b_M_tell 137 = .ok (.iload 4, 2) := by decide +kernel
theorem d_M_tell_139 : decode b_M_tell 139 = .ok (.iconst 4, 1) := by decide +kernel
theorem d_M_tell_140 : decode b_M_tell 140 = .ok (.iadd, 1) := by decide +kernel
theorem d_M_tell_141 : decode b_M_tell 141 = .ok (.iaload, 1) := by decide +kernel
theorem d_M_tell_142 : decode b_M_tell 142 = .ok (.ireturn, 1) := by decide +kernel
theorem d_M_tell_143 : decode b_M_tell 143 = .ok (.aload_n 1, 1) := by decide +kernel
theorem d_M_tell_144 : decode b_M_tell 144 = .ok (.iload 4, 2) := by decide +kernel
theorem d_M_tell_146 : decode b_M_tell 146 = .ok (.iconst 5, 1) := by decide +kernel
theorem d_M_tell_147 : decode b_M_tell 147 = .ok (.iadd, 1) := by decide +kernel
theorem d_M_tell_148 : decode b_M_tell 148 = .ok (.iaload, 1) := by decide +kernel
theorem d_M_tell_149 : decode b_M_tell 149 = .ok (.ireturn, 1) := by decide +kernel
theorem d_M_tell_150 : decode b_M_tell 150 = .ok (.aload_n 1, 1) := by decide +kernel
theorem d_M_tell_151 : decode b_M_tell 151 = .ok (.iload 4, 2) := by decide +kernel
theorem d_M_tell_153 : decode b_M_tell 153 = .ok (.bipush 6, 2) := by decide +kernel
theorem d_M_tell_155 : decode b_M_tell 155 = .ok (.iadd, 1) := by decide +kernel
theorem d_M_tell_156 : decode b_M_tell 156 = .ok (.iaload, 1) := by decide +kernel
theorem d_M_tell_157 : decode b_M_tell 157 = .ok (.ireturn, 1) := by decide +kernel
theorem d_M_tell_158 : decode b_M_tell 158 = .ok (.aload_n 0, 1) := by decide +kernel
theorem d_M_tell_159 : decode b_M_tell 159 = .ok (.aload_n 1, 1) := by decide +kernel
theorem d_M_tell_160 : decode b_M_tell 160 = .ok (.iload_n 2, 1) := by decide +kernel
theorem d_M_tell_161 : decode b_M_tell 161 = .ok (.invokevirtual 192, 3) := by decide +kernel
theorem d_M_tell_164 : decode b_M_tell 164 = .ok (.ireturn, 1) := by decide +kernel
theorem d_M_tell_165 : decode b_M_tell 165 = .ok (.aload_n 0, 1) := by decide +kernel
theorem d_M_tell_166 : decode b_M_tell 166 = .ok (.aload_n 1, 1) := by decide +kernel
theorem d_M_tell_167 : decode b_M_tell 167 = .ok (.iload_n 2, 1) := by decide +kernel
theorem d_M_tell_168 : decode b_M_tell 168 = .ok (.invokevirtual 222, 3) := by decide +kernel
theorem d_M_tell_171 : decode b_M_tell 171 = .ok (.ireturn, 1) := by decide +kernel
theorem d_M_tell_172 : decode b_M_tell 172 = .ok (.bipush (-2), 2) := by decide +kernel
theorem d_M_tell_174 : decode b_M_tell 174 = .ok (.ireturn, 1) := by decide +kernel
abbrev b_M_node : ByteArray := prog_10_method_46_code
abbrev y_M_node : MethodName := ⟨"TimeFloodModel", "node", "(II)I"⟩
theorem m_M_node : MWV y_M_node b_M_node 3 (Option.some FieldType.int) 2 := ⟨wd_891, wd_892, wd_9, wd_893, by decide, by decide, by decide +kernel⟩
theorem d_M_node_0 : decode b_M_node 0 = .ok (.aload_n 0, 1) := by decide +kernel
theorem d_M_node_1 : decode b_M_node 1 = .ok (.iload_n 1, 1) := by decide +kernel
theorem d_M_node_2 : decode b_M_node 2 = .ok (.invokevirtual 251, 3) := by decide +kernel
theorem d_M_node_5 : decode b_M_node 5 = .ok (.ifCond .eq 16, 3) := by decide +kernel
theorem d_M_node_8 : decode b_M_node 8 = .ok (.aload_n 0, 1) := by decide +kernel
theorem d_M_node_9 : decode b_M_node 9 = .ok (.aload_n 0, 1) := by decide +kernel
theorem d_M_node_10 : decode b_M_node 10 = .ok (.getfield 22, 3) := by decide +kernel
theorem d_M_node_13 : decode b_M_node 13 = .ok (.iload_n 1, 1) := by decide +kernel
theorem d_M_node_14 : decode b_M_node 14 = .ok (.iload_n 2, 1) := by decide +kernel
theorem d_M_node_15 : decode b_M_node 15 = .ok (.invokevirtual 254, 3) := by decide +kernel
theorem d_M_node_18 : decode b_M_node 18 = .ok (.goto 4, 3) := by decide +kernel
theorem d_M_node_21 : decode b_M_node 21 = .ok (.iconst (-1), 1) := by decide +kernel
theorem d_M_node_22 : decode b_M_node 22 = .ok (.ireturn, 1) := by decide +kernel
abbrev b_M_stamp : ByteArray := prog_10_method_47_code
abbrev y_M_stamp : MethodName := ⟨"TimeFloodModel", "stamp", "(III)I"⟩
theorem m_M_stamp : MWV y_M_stamp b_M_stamp 4 (Option.some FieldType.int) 3 := ⟨wd_905, wd_906, wd_9, wd_907, by decide, by decide, by decide +kernel⟩
theorem d_M_stamp_0 : decode b_M_stamp 0 = .ok (.aload_n 0, 1) := by decide +kernel
theorem d_M_stamp_1 : decode b_M_stamp 1 = .ok (.iload_n 1, 1) := by decide +kernel
theorem d_M_stamp_2 : decode b_M_stamp 2 = .ok (.invokevirtual 251, 3) := by decide +kernel
theorem d_M_stamp_5 : decode b_M_stamp 5 = .ok (.ifCond .ne 5, 3) := by decide +kernel
theorem d_M_stamp_8 : decode b_M_stamp 8 = .ok (.iconst (-1), 1) := by decide +kernel
theorem d_M_stamp_9 : decode b_M_stamp 9 = .ok (.ireturn, 1) := by decide +kernel
theorem d_M_stamp_10 : decode b_M_stamp 10 = .ok (.iload_n 3, 1) := by decide +kernel
theorem d_M_stamp_11 : decode b_M_stamp 11 = .ok (.i2l, 1) := by decide +kernel
theorem d_M_stamp_12 : decode b_M_stamp 12 = .ok (.lconst 0, 1) := by decide +kernel
theorem d_M_stamp_13 : decode b_M_stamp 13 = .ok (.ldc2_w 258, 3) := by decide +kernel
theorem d_M_stamp_16 : decode b_M_stamp 16 = .ok (.invokestatic 97, 3) := by decide +kernel
theorem d_M_stamp_19 : decode b_M_stamp 19 = .ok (.ifCond .ne 6, 3) := by decide +kernel
theorem d_M_stamp_22 : decode b_M_stamp 22 = .ok (.bipush (-2), 2) := by decide +kernel
theorem d_M_stamp_24 : decode b_M_stamp 24 = .ok (.ireturn, 1) := by decide +kernel
theorem d_M_stamp_25 : decode b_M_stamp 25 = .ok (.aload_n 0, 1) := by decide +kernel
theorem d_M_stamp_26 : decode b_M_stamp 26 = .ok (.getfield 22, 3) := by decide +kernel
theorem d_M_stamp_29 : decode b_M_stamp 29 = .ok (.iload_n 1, 1) := by decide +kernel
theorem d_M_stamp_30 : decode b_M_stamp 30 = .ok (.invokestatic 218, 3) := by decide +kernel
theorem d_M_stamp_33 : decode b_M_stamp 33 = .ok (.ifCond .eq 48, 3) := by decide +kernel
theorem d_M_stamp_36 : decode b_M_stamp 36 = .ok (.iload_n 2, 1) := by decide +kernel
theorem d_M_stamp_37 : decode b_M_stamp 37 = .ok (.i2l, 1) := by decide +kernel
theorem d_M_stamp_38 : decode b_M_stamp 38 = .ok (.lconst 0, 1) := by decide +kernel
theorem d_M_stamp_39 : decode b_M_stamp 39 = .ok (.aload_n 0, 1) := by decide +kernel
theorem d_M_stamp_40 : decode b_M_stamp 40 = .ok (.getfield 22, 3) := by decide +kernel
theorem d_M_stamp_43 : decode b_M_stamp 43 = .ok (.bipush 19, 2) := by decide +kernel
theorem d_M_stamp_45 : decode b_M_stamp 45 = .ok (.iload_n 1, 1) := by decide +kernel
theorem d_M_stamp_46 : decode b_M_stamp 46 = .ok (.imul, 1) := by decide +kernel
theorem d_M_stamp_47 : decode b_M_stamp 47 = .ok (.bipush 6, 2) := by decide +kernel
theorem d_M_stamp_49 : decode b_M_stamp 49 = .ok (.iadd, 1) := by decide +kernel
theorem d_M_stamp_50 : decode b_M_stamp 50 = .ok (.iaload, 1) := by decide +kernel
theorem d_M_stamp_51 : decode b_M_stamp 51 = .ok (.iconst 1, 1) := by decide +kernel
theorem d_M_stamp_52 : decode b_M_stamp 52 = .ok (.isub, 1) := by decide +kernel
theorem d_M_stamp_53 : decode b_M_stamp 53 = .ok (.i2l, 1) := by decide +kernel
theorem d_M_stamp_54 : decode b_M_stamp 54 = .ok (.invokestatic 97, 3) := by decide +kernel
theorem d_M_stamp_57 : decode b_M_stamp 57 = .ok (.ifCond .eq 24, 3) := by decide +kernel
theorem d_M_stamp_60 : decode b_M_stamp 60 = .ok (.aload_n 0, 1) := by decide +kernel
theorem d_M_stamp_61 : decode b_M_stamp 61 = .ok (.getfield 22, 3) := by decide +kernel
theorem d_M_stamp_64 : decode b_M_stamp 64 = .ok (.bipush 19, 2) := by decide +kernel
theorem d_M_stamp_66 : decode b_M_stamp 66 = .ok (.iload_n 1, 1) := by decide +kernel
theorem d_M_stamp_67 : decode b_M_stamp 67 = .ok (.imul, 1) := by decide +kernel
theorem d_M_stamp_68 : decode b_M_stamp 68 = .ok (.bipush 7, 2) := by decide +kernel
theorem d_M_stamp_70 : decode b_M_stamp 70 = .ok (.iadd, 1) := by decide +kernel
theorem d_M_stamp_71 : decode b_M_stamp 71 = .ok (.iconst 3, 1) := by decide +kernel
theorem d_M_stamp_72 : decode b_M_stamp 72 = .ok (.iload_n 2, 1) := by decide +kernel
theorem d_M_stamp_73 : decode b_M_stamp 73 = .ok (.imul, 1) := by decide +kernel
theorem d_M_stamp_74 : decode b_M_stamp 74 = .ok (.iadd, 1) := by decide +kernel
theorem d_M_stamp_75 : decode b_M_stamp 75 = .ok (.iload_n 3, 1) := by decide +kernel
theorem d_M_stamp_76 : decode b_M_stamp 76 = .ok (.iadd, 1) := by decide +kernel
theorem d_M_stamp_77 : decode b_M_stamp 77 = .ok (.iaload, 1) := by decide +kernel
theorem d_M_stamp_78 : decode b_M_stamp 78 = .ok (.goto 5, 3) := by decide +kernel
theorem d_M_stamp_81 : decode b_M_stamp 81 = .ok (.bipush (-9), 2) := by decide +kernel
theorem d_M_stamp_83 : decode b_M_stamp 83 = .ok (.ireturn, 1) := by decide +kernel
abbrev b_M_link : ByteArray := prog_10_method_48_code
abbrev y_M_link : MethodName := ⟨"TimeFloodModel", "link", "(II)I"⟩
theorem m_M_link : MWV y_M_link b_M_link 4 (Option.some FieldType.int) 2 := ⟨wd_910, wd_911, wd_9, wd_912, by decide, by decide, by decide +kernel⟩
theorem d_M_link_0 : decode b_M_link 0 = .ok (.aload_n 0, 1) := by decide +kernel
theorem d_M_link_1 : decode b_M_link 1 = .ok (.iload_n 1, 1) := by decide +kernel
theorem d_M_link_2 : decode b_M_link 2 = .ok (.invokevirtual 260, 3) := by decide +kernel
theorem d_M_link_5 : decode b_M_link 5 = .ok (.ifCond .ne 5, 3) := by decide +kernel
theorem d_M_link_8 : decode b_M_link 8 = .ok (.iconst (-1), 1) := by decide +kernel
theorem d_M_link_9 : decode b_M_link 9 = .ok (.ireturn, 1) := by decide +kernel
theorem d_M_link_10 : decode b_M_link 10 = .ok (.aload_n 0, 1) := by decide +kernel
theorem d_M_link_11 : decode b_M_link 11 = .ok (.getfield 16, 3) := by decide +kernel
theorem d_M_link_14 : decode b_M_link 14 = .ok (.iload_n 1, 1) := by decide +kernel
theorem d_M_link_15 : decode b_M_link 15 = .ok (.iaload, 1) := by decide +kernel
theorem d_M_link_16 : decode b_M_link 16 = .ok (.aload_n 0, 1) := by decide +kernel
theorem d_M_link_17 : decode b_M_link 17 = .ok (.getfield 19, 3) := by decide +kernel
theorem d_M_link_20 : decode b_M_link 20 = .ok (.iload_n 1, 1) := by decide +kernel
theorem d_M_link_21 : decode b_M_link 21 = .ok (.iaload, 1) := by decide +kernel
theorem d_M_link_22 : decode b_M_link 22 = .ok (.if_icmp .ge 7, 3) := by decide +kernel
theorem d_M_link_25 : decode b_M_link 25 = .ok (.iconst 1, 1) := by decide +kernel
theorem d_M_link_26 : decode b_M_link 26 = .ok (.goto 4, 3) := by decide +kernel
theorem d_M_link_29 : decode b_M_link 29 = .ok (.iconst 0, 1) := by decide +kernel
theorem d_M_link_30 : decode b_M_link 30 = .ok (.istore_n 3, 1) := by decide +kernel
theorem d_M_link_31 : decode b_M_link 31 = .ok (.iload_n 2, 1) := by decide +kernel
theorem d_M_link_32 : decode b_M_link 32 = .ok (.tableswitch 78 0 2 #[28, 48, 68], 28) := by decide +kernel
theorem d_M_link_60 : decode b_M_link 60 = .ok (.iload_n 3, 1) := by decide +kernel
theorem d_M_link_61 : decode b_M_link 61 = .ok (.ifCond .eq 12, 3) := by decide +kernel
theorem d_M_link_64 : decode b_M_link 64 = .ok (.aload_n 0, 1) := by decide +kernel
theorem d_M_link_65 : decode b_M_link 65 = .ok (.getfield 16, 3) := by decide +kernel
theorem d_M_link_68 : decode b_M_link 68 = .ok (.iload_n 1, 1) := by decide +kernel
theorem d_M_link_69 : decode b_M_link 69 = .ok (.iaload, 1) := by decide +kernel
theorem d_M_link_70 : decode b_M_link 70 = .ok (.goto 9, 3) := by decide +kernel
theorem d_M_link_73 : decode b_M_link 73 = .ok (.aload_n 0, 1) := by decide +kernel
theorem d_M_link_74 : decode b_M_link 74 = .ok (.getfield 19, 3) := by decide +kernel
theorem d_M_link_77 : decode b_M_link 77 = .ok (.iload_n 1, 1) := by decide +kernel
theorem d_M_link_78 : decode b_M_link 78 = .ok (.iaload, 1) := by decide +kernel
theorem d_M_link_79 : decode b_M_link 79 = .ok (.ireturn, 1) := by decide +kernel
theorem d_M_link_80 : decode b_M_link 80 = .ok (.iload_n 3, 1) := by decide +kernel
theorem d_M_link_81 : decode b_M_link 81 = .ok (.ifCond .eq 12, 3) := by decide +kernel
theorem d_M_link_84 : decode b_M_link 84 = .ok (.aload_n 0, 1) := by decide +kernel
theorem d_M_link_85 : decode b_M_link 85 = .ok (.getfield 19, 3) := by decide +kernel
theorem d_M_link_88 : decode b_M_link 88 = .ok (.iload_n 1, 1) := by decide +kernel
theorem d_M_link_89 : decode b_M_link 89 = .ok (.iaload, 1) := by decide +kernel
theorem d_M_link_90 : decode b_M_link 90 = .ok (.goto 9, 3) := by decide +kernel
theorem d_M_link_93 : decode b_M_link 93 = .ok (.aload_n 0, 1) := by decide +kernel
theorem d_M_link_94 : decode b_M_link 94 = .ok (.getfield 16, 3) := by decide +kernel
theorem d_M_link_97 : decode b_M_link 97 = .ok (.iload_n 1, 1) := by decide +kernel
theorem d_M_link_98 : decode b_M_link 98 = .ok (.iaload, 1) := by decide +kernel
theorem d_M_link_99 : decode b_M_link 99 = .ok (.ireturn, 1) := by decide +kernel
theorem d_M_link_100 : decode b_M_link 100 = .ok (.aload_n 0, 1) := by decide +kernel
theorem d_M_link_101 : decode b_M_link 101 = .ok (.getfield 22, 3) := by decide +kernel
theorem d_M_link_104 : decode b_M_link 104 = .ok (.bipush 95, 2) := by decide +kernel
theorem d_M_link_106 : decode b_M_link 106 = .ok (.iload_n 1, 1) := by decide +kernel
theorem d_M_link_107 : decode b_M_link 107 = .ok (.iadd, 1) := by decide +kernel
theorem d_M_link_108 : decode b_M_link 108 = .ok (.iaload, 1) := by decide +kernel
theorem d_M_link_109 : decode b_M_link 109 = .ok (.ireturn, 1) := by decide +kernel
theorem d_M_link_110 : decode b_M_link 110 = .ok (.bipush (-2), 2) := by decide +kernel
theorem d_M_link_112 : decode b_M_link 112 = .ok (.ireturn, 1) := by decide +kernel
abbrev b_M_note : ByteArray := prog_10_method_49_code
abbrev y_M_note : MethodName := ⟨"TimeFloodModel", "note", "()V"⟩
theorem m_M_note : MWV y_M_note b_M_note 2 none 0 := ⟨wd_924, wp_32, wd_9, wd_925, by decide, by decide, by decide +kernel⟩
theorem d_M_note_0 : decode b_M_note 0 = .ok (.iconst 0, 1) := by decide +kernel
theorem d_M_note_1 : decode b_M_note 1 = .ok (.istore_n 1, 1) := by decide +kernel
theorem d_M_note_2 : decode b_M_note 2 = .ok (.iload_n 1, 1) := by decide +kernel
theorem d_M_note_3 : decode b_M_note 3 = .ok (.bipush 103, 2) := by decide +kernel
theorem d_M_note_5 : decode b_M_note 5 = .ok (.if_icmp .ge 29, 3) := by decide +kernel
theorem d_M_note_8 : decode b_M_note 8 = .ok (.aload_n 0, 1) := by decide +kernel
theorem d_M_note_9 : decode b_M_note 9 = .ok (.getfield 28, 3) := by decide +kernel
theorem d_M_note_12 : decode b_M_note 12 = .ok (.bipush 103, 2) := by decide +kernel
theorem d_M_note_14 : decode b_M_note 14 = .ok (.aload_n 0, 1) := by decide +kernel
theorem d_M_note_15 : decode b_M_note 15 = .ok (.getfield 263, 3) := by decide +kernel
theorem d_M_note_18 : decode b_M_note 18 = .ok (.imul, 1) := by decide +kernel
theorem d_M_note_19 : decode b_M_note 19 = .ok (.iload_n 1, 1) := by decide +kernel
theorem d_M_note_20 : decode b_M_note 20 = .ok (.iadd, 1) := by decide +kernel
theorem d_M_note_21 : decode b_M_note 21 = .ok (.aload_n 0, 1) := by decide +kernel
theorem d_M_note_22 : decode b_M_note 22 = .ok (.getfield 22, 3) := by decide +kernel
theorem d_M_note_25 : decode b_M_note 25 = .ok (.iload_n 1, 1) := by decide +kernel
theorem d_M_note_26 : decode b_M_note 26 = .ok (.iaload, 1) := by decide +kernel
theorem d_M_note_27 : decode b_M_note 27 = .ok (.iastore, 1) := by decide +kernel
theorem d_M_note_28 : decode b_M_note 28 = .ok (.iinc 1 1, 3) := by decide +kernel
theorem d_M_note_31 : decode b_M_note 31 = .ok (.goto (-29), 3) := by decide +kernel
theorem d_M_note_34 : decode b_M_note 34 = .ok (.aload_n 0, 1) := by decide +kernel
theorem d_M_note_35 : decode b_M_note 35 = .ok (.aload_n 0, 1) := by decide +kernel
theorem d_M_note_36 : decode b_M_note 36 = .ok (.getfield 263, 3) := by decide +kernel
theorem d_M_note_39 : decode b_M_note 39 = .ok (.iconst 1, 1) := by decide +kernel
theorem d_M_note_40 : decode b_M_note 40 = .ok (.iadd, 1) := by decide +kernel
theorem d_M_note_41 : decode b_M_note 41 = .ok (.bipush 14, 2) := by decide +kernel
theorem d_M_note_43 : decode b_M_note 43 = .ok (.irem, 1) := by decide +kernel
theorem d_M_note_44 : decode b_M_note 44 = .ok (.putfield 263, 3) := by decide +kernel
theorem d_M_note_47 : decode b_M_note 47 = .ok (.aload_n 0, 1) := by decide +kernel
theorem d_M_note_48 : decode b_M_note 48 = .ok (.aload_n 0, 1) := by decide +kernel
theorem d_M_note_49 : decode b_M_note 49 = .ok (.getfield 175, 3) := by decide +kernel
theorem d_M_note_52 : decode b_M_note 52 = .ok (.bipush 14, 2) := by decide +kernel
theorem d_M_note_54 : decode b_M_note 54 = .ok (.if_icmp .ge 12, 3) := by decide +kernel
theorem d_M_note_57 : decode b_M_note 57 = .ok (.aload_n 0, 1) := by decide +kernel
theorem d_M_note_58 : decode b_M_note 58 = .ok (.getfield 175, 3) := by decide +kernel
theorem d_M_note_61 : decode b_M_note 61 = .ok (.iconst 1, 1) := by decide +kernel
theorem d_M_note_62 : decode b_M_note 62 = .ok (.iadd, 1) := by decide +kernel
theorem d_M_note_63 : decode b_M_note 63 = .ok (.goto 5, 3) := by decide +kernel
theorem d_M_note_66 : decode b_M_note 66 = .ok (.bipush 14, 2) := by decide +kernel
theorem d_M_note_68 : decode b_M_note 68 = .ok (.putfield 175, 3) := by decide +kernel
theorem d_M_note_71 : decode b_M_note 71 = .ok (.return_, 1) := by decide +kernel
abbrev b_M_period : ByteArray := prog_10_method_50_code
abbrev y_M_period : MethodName := ⟨"TimeFloodModel", "period", "(I)I"⟩
theorem m_M_period : MWV y_M_period b_M_period 3 (Option.some FieldType.int) 1 := ⟨wd_918, wd_919, wd_9, wd_920, by decide, by decide, by decide +kernel⟩
theorem d_M_period_0 : decode b_M_period 0 = .ok (.iload_n 1, 1) := by decide +kernel
theorem d_M_period_1 : decode b_M_period 1 = .ok (.i2l, 1) := by decide +kernel
theorem d_M_period_2 : decode b_M_period 2 = .ok (.lconst 1, 1) := by decide +kernel
theorem d_M_period_3 : decode b_M_period 3 = .ok (.ldc2_w 266, 3) := by decide +kernel
theorem d_M_period_6 : decode b_M_period 6 = .ok (.invokestatic 97, 3) := by decide +kernel
theorem d_M_period_9 : decode b_M_period 9 = .ok (.ifCond .ne 6, 3) := by decide +kernel
theorem d_M_period_12 : decode b_M_period 12 = .ok (.bipush (-2), 2) := by decide +kernel
theorem d_M_period_14 : decode b_M_period 14 = .ok (.ireturn, 1) := by decide +kernel
theorem d_M_period_15 : decode b_M_period 15 = .ok (.aload_n 0, 1) := by decide +kernel
theorem d_M_period_16 : decode b_M_period 16 = .ok (.invokevirtual 268, 3) := by decide +kernel
theorem d_M_period_19 : decode b_M_period 19 = .ok (.iconst 0, 1) := by decide +kernel
theorem d_M_period_20 : decode b_M_period 20 = .ok (.istore_n 2, 1) := by decide +kernel
theorem d_M_period_21 : decode b_M_period 21 = .ok (.iload_n 2, 1) := by decide +kernel
theorem d_M_period_22 : decode b_M_period 22 = .ok (.iload_n 1, 1) := by decide +kernel
theorem d_M_period_23 : decode b_M_period 23 = .ok (.if_icmp .ge 17, 3) := by decide +kernel
theorem d_M_period_26 : decode b_M_period 26 = .ok (.aload_n 0, 1) := by decide +kernel
theorem d_M_period_27 : decode b_M_period 27 = .ok (.aload_n 0, 1) := by decide +kernel
theorem d_M_period_28 : decode b_M_period 28 = .ok (.getfield 22, 3) := by decide +kernel
theorem d_M_period_31 : decode b_M_period 31 = .ok (.invokevirtual 215, 3) := by decide +kernel
theorem d_M_period_34 : decode b_M_period 34 = .ok (.iinc 2 1, 3) := by decide +kernel
theorem d_M_period_37 : decode b_M_period 37 = .ok (.goto (-16), 3) := by decide +kernel
theorem d_M_period_40 : decode b_M_period 40 = .ok (.aload_n 0, 1) := by decide +kernel
theorem d_M_period_41 : decode b_M_period 41 = .ok (.aload_n 0, 1) := by decide +kernel
theorem d_M_period_42 : decode b_M_period 42 = .ok (.getfield 22, 3) := by decide +kernel
theorem d_M_period_45 : decode b_M_period 45 = .ok (.invokevirtual 233, 3) := by decide +kernel
theorem d_M_period_48 : decode b_M_period 48 = .ok (.invokestatic 271, 3) := by decide +kernel
theorem d_M_period_51 : decode b_M_period 51 = .ok (.ireturn, 1) := by decide +kernel
abbrev b_M_turn : ByteArray := prog_10_method_51_code
abbrev y_M_turn : MethodName := ⟨"TimeFloodModel", "turn", "(I)I"⟩
theorem m_M_turn : MWV y_M_turn b_M_turn 2 (Option.some FieldType.int) 1 := ⟨wd_959, wd_960, wd_9, wd_961, by decide, by decide, by decide +kernel⟩
theorem d_M_turn_0 : decode b_M_turn 0 = .ok (.aload_n 0, 1) := by decide +kernel
theorem d_M_turn_1 : decode b_M_turn 1 = .ok (.iload_n 1, 1) := by decide +kernel
theorem d_M_turn_2 : decode b_M_turn 2 = .ok (.invokevirtual 260, 3) := by decide +kernel
theorem d_M_turn_5 : decode b_M_turn 5 = .ok (.ifCond .ne 5, 3) := by decide +kernel
theorem d_M_turn_8 : decode b_M_turn 8 = .ok (.iconst (-1), 1) := by decide +kernel
theorem d_M_turn_9 : decode b_M_turn 9 = .ok (.ireturn, 1) := by decide +kernel
theorem d_M_turn_10 : decode b_M_turn 10 = .ok (.aload_n 0, 1) := by decide +kernel
theorem d_M_turn_11 : decode b_M_turn 11 = .ok (.invokevirtual 268, 3) := by decide +kernel
theorem d_M_turn_14 : decode b_M_turn 14 = .ok (.aload_n 0, 1) := by decide +kernel
theorem d_M_turn_15 : decode b_M_turn 15 = .ok (.getfield 22, 3) := by decide +kernel
theorem d_M_turn_18 : decode b_M_turn 18 = .ok (.bipush 95, 2) := by decide +kernel
theorem d_M_turn_20 : decode b_M_turn 20 = .ok (.iload_n 1, 1) := by decide +kernel
theorem d_M_turn_21 : decode b_M_turn 21 = .ok (.iadd, 1) := by decide +kernel
theorem d_M_turn_22 : decode b_M_turn 22 = .ok (.iconst 1, 1) := by decide +kernel
theorem d_M_turn_23 : decode b_M_turn 23 = .ok (.aload_n 0, 1) := by decide +kernel
theorem d_M_turn_24 : decode b_M_turn 24 = .ok (.getfield 22, 3) := by decide +kernel
theorem d_M_turn_27 : decode b_M_turn 27 = .ok (.bipush 95, 2) := by decide +kernel
theorem d_M_turn_29 : decode b_M_turn 29 = .ok (.iload_n 1, 1) := by decide +kernel
theorem d_M_turn_30 : decode b_M_turn 30 = .ok (.iadd, 1) := by decide +kernel
theorem d_M_turn_31 : decode b_M_turn 31 = .ok (.iaload, 1) := by decide +kernel
theorem d_M_turn_32 : decode b_M_turn 32 = .ok (.isub, 1) := by decide +kernel
theorem d_M_turn_33 : decode b_M_turn 33 = .ok (.iastore, 1) := by decide +kernel
theorem d_M_turn_34 : decode b_M_turn 34 = .ok (.aload_n 0, 1) := by decide +kernel
theorem d_M_turn_35 : decode b_M_turn 35 = .ok (.getfield 22, 3) := by decide +kernel
theorem d_M_turn_38 : decode b_M_turn 38 = .ok (.bipush 95, 2) := by decide +kernel
theorem d_M_turn_40 : decode b_M_turn 40 = .ok (.iload_n 1, 1) := by decide +kernel
theorem d_M_turn_41 : decode b_M_turn 41 = .ok (.iadd, 1) := by decide +kernel
theorem d_M_turn_42 : decode b_M_turn 42 = .ok (.iaload, 1) := by decide +kernel
theorem d_M_turn_43 : decode b_M_turn 43 = .ok (.ireturn, 1) := by decide +kernel
abbrev b_M_powerOn : ByteArray := prog_10_method_52_code
abbrev y_M_powerOn : MethodName := ⟨"TimeFloodModel", "powerOn", "([II)V"⟩
theorem m_M_powerOn : MWS y_M_powerOn b_M_powerOn 2 none 2 := ⟨wd_967, wd_9, wd_968, by decide, by decide, by decide +kernel⟩
theorem d_M_powerOn_0 : decode b_M_powerOn 0 = .ok (.aload_n 0, 1) := by decide +kernel
theorem d_M_powerOn_1 : decode b_M_powerOn 1 = .ok (.iload_n 1, 1) := by decide +kernel
theorem d_M_powerOn_2 : decode b_M_powerOn 2 = .ok (.invokestatic 218, 3) := by decide +kernel
theorem d_M_powerOn_5 : decode b_M_powerOn 5 = .ok (.ifCond .eq 15, 3) := by decide +kernel
theorem d_M_powerOn_8 : decode b_M_powerOn 8 = .ok (.aload_n 0, 1) := by decide +kernel
theorem d_M_powerOn_9 : decode b_M_powerOn 9 = .ok (.bipush 19, 2) := by decide +kernel
theorem d_M_powerOn_11 : decode b_M_powerOn 11 = .ok (.iload_n 1, 1) := by decide +kernel
theorem d_M_powerOn_12 : decode b_M_powerOn 12 = .ok (.imul, 1) := by decide +kernel
theorem d_M_powerOn_13 : decode b_M_powerOn 13 = .ok (.iconst 0, 1) := by decide +kernel
theorem d_M_powerOn_14 : decode b_M_powerOn 14 = .ok (.iadd, 1) := by decide +kernel
theorem d_M_powerOn_15 : decode b_M_powerOn 15 = .ok (.iconst 0, 1) := by decide +kernel
theorem d_M_powerOn_16 : decode b_M_powerOn 16 = .ok (.iastore, 1) := by decide +kernel
theorem d_M_powerOn_17 : decode b_M_powerOn 17 = .ok (.goto 8, 3) := by decide +kernel
theorem d_M_powerOn_20 : decode b_M_powerOn 20 = .ok (.aload_n 0, 1) := by decide +kernel
theorem d_M_powerOn_21 : decode b_M_powerOn 21 = .ok (.iload_n 1, 1) := by decide +kernel
theorem d_M_powerOn_22 : decode b_M_powerOn 22 = .ok (.invokestatic 171, 3) := by decide +kernel
theorem d_M_powerOn_25 : decode b_M_powerOn 25 = .ok (.return_, 1) := by decide +kernel
abbrev b_M_power : ByteArray := prog_10_method_53_code
abbrev y_M_power : MethodName := ⟨"TimeFloodModel", "power", "(I)I"⟩
theorem m_M_power : MWV y_M_power b_M_power 2 (Option.some FieldType.int) 1 := ⟨wd_963, wd_964, wd_9, wd_965, by decide, by decide, by decide +kernel⟩
theorem d_M_power_0 : decode b_M_power 0 = .ok (.aload_n 0, 1) := by decide +kernel
theorem d_M_power_1 : decode b_M_power 1 = .ok (.iload_n 1, 1) := by decide +kernel
theorem d_M_power_2 : decode b_M_power 2 = .ok (.invokevirtual 251, 3) := by decide +kernel
theorem d_M_power_5 : decode b_M_power 5 = .ok (.ifCond .ne 5, 3) := by decide +kernel
theorem d_M_power_8 : decode b_M_power 8 = .ok (.iconst (-1), 1) := by decide +kernel
theorem d_M_power_9 : decode b_M_power 9 = .ok (.ireturn, 1) := by decide +kernel
theorem d_M_power_10 : decode b_M_power 10 = .ok (.aload_n 0, 1) := by decide +kernel
theorem d_M_power_11 : decode b_M_power 11 = .ok (.invokevirtual 268, 3) := by decide +kernel
theorem d_M_power_14 : decode b_M_power 14 = .ok (.aload_n 0, 1) := by decide +kernel
theorem d_M_power_15 : decode b_M_power 15 = .ok (.getfield 22, 3) := by decide +kernel
theorem d_M_power_18 : decode b_M_power 18 = .ok (.iload_n 1, 1) := by decide +kernel
theorem d_M_power_19 : decode b_M_power 19 = .ok (.invokestatic 275, 3) := by decide +kernel
theorem d_M_power_22 : decode b_M_power 22 = .ok (.aload_n 0, 1) := by decide +kernel
theorem d_M_power_23 : decode b_M_power 23 = .ok (.getfield 22, 3) := by decide +kernel
theorem d_M_power_26 : decode b_M_power 26 = .ok (.bipush 19, 2) := by decide +kernel
theorem d_M_power_28 : decode b_M_power 28 = .ok (.iload_n 1, 1) := by decide +kernel
theorem d_M_power_29 : decode b_M_power 29 = .ok (.imul, 1) := by decide +kernel
theorem d_M_power_30 : decode b_M_power 30 = .ok (.iconst 0, 1) := by decide +kernel
theorem d_M_power_31 : decode b_M_power 31 = .ok (.iadd, 1) := by decide +kernel
theorem d_M_power_32 : decode b_M_power 32 = .ok (.iaload, 1) := by decide +kernel
theorem d_M_power_33 : decode b_M_power 33 = .ok (.ireturn, 1) := by decide +kernel
abbrev b_M_drift : ByteArray := prog_10_method_54_code
abbrev y_M_drift : MethodName := ⟨"TimeFloodModel", "drift", "(II)I"⟩
theorem m_M_drift : MWV y_M_drift b_M_drift 3 (Option.some FieldType.int) 2 := ⟨wd_970, wd_971, wd_9, wd_972, by decide, by decide, by decide +kernel⟩
theorem d_M_drift_0 : decode b_M_drift 0 = .ok (.aload_n 0, 1) := by decide +kernel
theorem d_M_drift_1 : decode b_M_drift 1 = .ok (.iload_n 1, 1) := by decide +kernel
theorem d_M_drift_2 : decode b_M_drift 2 = .ok (.invokevirtual 251, 3) := by decide +kernel
theorem d_M_drift_5 : decode b_M_drift 5 = .ok (.ifCond .ne 5, 3) := by decide +kernel
theorem d_M_drift_8 : decode b_M_drift 8 = .ok (.iconst (-1), 1) := by decide +kernel
theorem d_M_drift_9 : decode b_M_drift 9 = .ok (.ireturn, 1) := by decide +kernel
theorem d_M_drift_10 : decode b_M_drift 10 = .ok (.iload_n 2, 1) := by decide +kernel
theorem d_M_drift_11 : decode b_M_drift 11 = .ok (.i2l, 1) := by decide +kernel
theorem d_M_drift_12 : decode b_M_drift 12 = .ok (.ldc2_w 278, 3) := by decide +kernel
theorem d_M_drift_15 : decode b_M_drift 15 = .ok (.ldc2_w 280, 3) := by decide +kernel
theorem d_M_drift_18 : decode b_M_drift 18 = .ok (.invokestatic 97, 3) := by decide +kernel
theorem d_M_drift_21 : decode b_M_drift 21 = .ok (.ifCond .ne 6, 3) := by decide +kernel
theorem d_M_drift_24 : decode b_M_drift 24 = .ok (.bipush (-2), 2) := by decide +kernel
theorem d_M_drift_26 : decode b_M_drift 26 = .ok (.ireturn, 1) := by decide +kernel
theorem d_M_drift_27 : decode b_M_drift 27 = .ok (.aload_n 0, 1) := by decide +kernel
theorem d_M_drift_28 : decode b_M_drift 28 = .ok (.invokevirtual 268, 3) := by decide +kernel
theorem d_M_drift_31 : decode b_M_drift 31 = .ok (.aload_n 0, 1) := by decide +kernel
theorem d_M_drift_32 : decode b_M_drift 32 = .ok (.getfield 22, 3) := by decide +kernel
theorem d_M_drift_35 : decode b_M_drift 35 = .ok (.bipush 19, 2) := by decide +kernel
theorem d_M_drift_37 : decode b_M_drift 37 = .ok (.iload_n 1, 1) := by decide +kernel
theorem d_M_drift_38 : decode b_M_drift 38 = .ok (.imul, 1) := by decide +kernel
theorem d_M_drift_39 : decode b_M_drift 39 = .ok (.iconst 1, 1) := by decide +kernel
theorem d_M_drift_40 : decode b_M_drift 40 = .ok (.iadd, 1) := by decide +kernel
theorem d_M_drift_41 : decode b_M_drift 41 = .ok (.iload_n 2, 1) := by decide +kernel
theorem d_M_drift_42 : decode b_M_drift 42 = .ok (.iastore, 1) := by decide +kernel
theorem d_M_drift_43 : decode b_M_drift 43 = .ok (.aload_n 0, 1) := by decide +kernel
theorem d_M_drift_44 : decode b_M_drift 44 = .ok (.aload_n 0, 1) := by decide +kernel
theorem d_M_drift_45 : decode b_M_drift 45 = .ok (.getfield 22, 3) := by decide +kernel
theorem d_M_drift_48 : decode b_M_drift 48 = .ok (.iload_n 1, 1) := by decide +kernel
theorem d_M_drift_49 : decode b_M_drift 49 = .ok (.invokevirtual 182, 3) := by decide +kernel
theorem d_M_drift_52 : decode b_M_drift 52 = .ok (.ireturn, 1) := by decide +kernel
abbrev b_M_undo : ByteArray := prog_10_method_55_code
abbrev y_M_undo : MethodName := ⟨"TimeFloodModel", "undo", "()I"⟩
theorem m_M_undo : MWV y_M_undo b_M_undo 2 (Option.some FieldType.int) 0 := ⟨wd_976, wd_977, wd_9, wd_978, by decide, by decide, by decide +kernel⟩
theorem d_M_undo_0 : decode b_M_undo 0 = .ok (.aload_n 0, 1) := by decide +kernel
theorem d_M_undo_1 : decode b_M_undo 1 = .ok (.getfield 175, 3) := by decide +kernel
theorem d_M_undo_4 : decode b_M_undo 4 = .ok (.ifCond .ne 6, 3) := by decide +kernel
theorem d_M_undo_7 : decode b_M_undo 7 = .ok (.bipush (-3), 2) := by decide +kernel
theorem d_M_undo_9 : decode b_M_undo 9 = .ok (.ireturn, 1) := by decide +kernel
theorem d_M_undo_10 : decode b_M_undo 10 = .ok (.aload_n 0, 1) := by decide +kernel
theorem d_M_undo_11 : decode b_M_undo 11 = .ok (.dup, 1) := by decide +kernel
theorem d_M_undo_12 : decode b_M_undo 12 = .ok (.getfield 175, 3) := by decide +kernel
theorem d_M_undo_15 : decode b_M_undo 15 = .ok (.iconst 1, 1) := by decide +kernel
theorem d_M_undo_16 : decode b_M_undo 16 = .ok (.isub, 1) := by decide +kernel
theorem d_M_undo_17 : decode b_M_undo 17 = .ok (.putfield 175, 3) := by decide +kernel
theorem d_M_undo_20 : decode b_M_undo 20 = .ok (.aload_n 0, 1) := by decide +kernel
theorem d_M_undo_21 : decode b_M_undo 21 = .ok (.aload_n 0, 1) := by decide +kernel
theorem d_M_undo_22 : decode b_M_undo 22 = .ok (.getfield 263, 3) := by decide +kernel
theorem d_M_undo_25 : decode b_M_undo 25 = .ok (.bipush 14, 2) := by decide +kernel
theorem d_M_undo_27 : decode b_M_undo 27 = .ok (.iadd, 1) := by decide +kernel
theorem d_M_undo_28 : decode b_M_undo 28 = .ok (.iconst 1, 1) := by decide +kernel
theorem d_M_undo_29 : decode b_M_undo 29 = .ok (.isub, 1) := by decide +kernel
theorem d_M_undo_30 : decode b_M_undo 30 = .ok (.bipush 14, 2) := by decide +kernel
theorem d_M_undo_32 : decode b_M_undo 32 = .ok (.irem, 1) := by decide +kernel
theorem d_M_undo_33 : decode b_M_undo 33 = .ok (.putfield 263, 3) := by decide +kernel
theorem d_M_undo_36 : decode b_M_undo 36 = .ok (.iconst 0, 1) := by decide +kernel
theorem d_M_undo_37 : decode b_M_undo 37 = .ok (.istore_n 1, 1) := by decide +kernel
theorem d_M_undo_38 : decode b_M_undo 38 = .ok (.iload_n 1, 1) := by decide +kernel
theorem d_M_undo_39 : decode b_M_undo 39 = .ok (.bipush 103, 2) := by decide +kernel
theorem d_M_undo_41 : decode b_M_undo 41 = .ok (.if_icmp .ge 29, 3) := by decide +kernel
theorem d_M_undo_44 : decode b_M_undo 44 = .ok (.aload_n 0, 1) := by decide +kernel
theorem d_M_undo_45 : decode b_M_undo 45 = .ok (.getfield 22, 3) := by decide +kernel
theorem d_M_undo_48 : decode b_M_undo 48 = .ok (.iload_n 1, 1) := by decide +kernel
theorem d_M_undo_49 : decode b_M_undo 49 = .ok (.aload_n 0, 1) := by decide +kernel
theorem d_M_undo_50 : decode b_M_undo 50 = .ok (.getfield 28, 3) := by decide +kernel
theorem d_M_undo_53 : decode b_M_undo 53 = .ok (.bipush 103, 2) := by decide +kernel
theorem d_M_undo_55 : decode b_M_undo 55 = .ok (.aload_n 0, 1) := by decide +kernel
theorem d_M_undo_56 : decode b_M_undo 56 = .ok (.getfield 263, 3) := by decide +kernel
theorem d_M_undo_59 : decode b_M_undo 59 = .ok (.imul, 1) := by decide +kernel
theorem d_M_undo_60 : decode b_M_undo 60 = .ok (.iload_n 1, 1) := by decide +kernel
theorem d_M_undo_61 : decode b_M_undo 61 = .ok (.iadd, 1) := by decide +kernel
theorem d_M_undo_62 : decode b_M_undo 62 = .ok (.iaload, 1) := by decide +kernel
theorem d_M_undo_63 : decode b_M_undo 63 = .ok (.iastore, 1) := by decide +kernel
theorem d_M_undo_64 : decode b_M_undo 64 = .ok (.iinc 1 1, 3) := by decide +kernel
theorem d_M_undo_67 : decode b_M_undo 67 = .ok (.goto (-29), 3) := by decide +kernel
theorem d_M_undo_70 : decode b_M_undo 70 = .ok (.aload_n 0, 1) := by decide +kernel
theorem d_M_undo_71 : decode b_M_undo 71 = .ok (.getfield 175, 3) := by decide +kernel
theorem d_M_undo_74 : decode b_M_undo 74 = .ok (.ireturn, 1) := by decide +kernel
abbrev b_M_ahead : ByteArray := prog_10_method_56_code
abbrev y_M_ahead : MethodName := ⟨"TimeFloodModel", "ahead", "(III)I"⟩
theorem m_M_ahead : MWV y_M_ahead b_M_ahead 4 (Option.some FieldType.int) 3 := ⟨wd_980, wd_981, wd_9, wd_982, by decide, by decide, by decide +kernel⟩
theorem d_M_ahead_0 : decode b_M_ahead 0 = .ok (.aload_n 0, 1) := by decide +kernel
theorem d_M_ahead_1 : decode b_M_ahead 1 = .ok (.iload_n 2, 1) := by decide +kernel
theorem d_M_ahead_2 : decode b_M_ahead 2 = .ok (.invokevirtual 251, 3) := by decide +kernel
theorem d_M_ahead_5 : decode b_M_ahead 5 = .ok (.ifCond .ne 5, 3) := by decide +kernel
theorem d_M_ahead_8 : decode b_M_ahead 8 = .ok (.iconst (-1), 1) := by decide +kernel
theorem d_M_ahead_9 : decode b_M_ahead 9 = .ok (.ireturn, 1) := by decide +kernel
theorem d_M_ahead_10 : decode b_M_ahead 10 = .ok (.iload_n 1, 1) := by decide +kernel
theorem d_M_ahead_11 : decode b_M_ahead 11 = .ok (.i2l, 1) := by decide +kernel
theorem d_M_ahead_12 : decode b_M_ahead 12 = .ok (.lconst 0, 1) := by decide +kernel
theorem d_M_ahead_13 : decode b_M_ahead 13 = .ok (.ldc2_w 266, 3) := by decide +kernel
theorem d_M_ahead_16 : decode b_M_ahead 16 = .ok (.invokestatic 97, 3) := by decide +kernel
theorem d_M_ahead_19 : decode b_M_ahead 19 = .ok (.ifCond .eq 17, 3) := by decide +kernel
theorem d_M_ahead_22 : decode b_M_ahead 22 = .ok (.iload_n 3, 1) := by decide +kernel
theorem d_M_ahead_23 : decode b_M_ahead 23 = .ok (.i2l, 1) := by decide +kernel
theorem d_M_ahead_24 : decode b_M_ahead 24 = .ok (.ldc2_w 258, 3) := by decide +kernel
theorem d_M_ahead_27 : decode b_M_ahead 27 = .ok (.ldc2_w 249, 3) := by decide +kernel
theorem d_M_ahead_30 : decode b_M_ahead 30 = .ok (.invokestatic 97, 3) := by decide +kernel
theorem d_M_ahead_33 : decode b_M_ahead 33 = .ok (.ifCond .ne 6, 3) := by decide +kernel
theorem d_M_ahead_36 : decode b_M_ahead 36 = .ok (.bipush (-2), 2) := by decide +kernel
theorem d_M_ahead_38 : decode b_M_ahead 38 = .ok (.ireturn, 1) := by decide +kernel
theorem d_M_ahead_39 : decode b_M_ahead 39 = .ok (.aload_n 0, 1) := by decide +kernel
theorem d_M_ahead_40 : decode b_M_ahead 40 = .ok (.getfield 22, 3) := by decide +kernel
theorem d_M_ahead_43 : decode b_M_ahead 43 = .ok (.aload_n 0, 1) := by decide +kernel
theorem d_M_ahead_44 : decode b_M_ahead 44 = .ok (.getfield 25, 3) := by decide +kernel
theorem d_M_ahead_47 : decode b_M_ahead 47 = .ok (.invokestatic 282, 3) := by decide +kernel
theorem d_M_ahead_50 : decode b_M_ahead 50 = .ok (.aload_n 0, 1) := by decide +kernel
theorem d_M_ahead_51 : decode b_M_ahead 51 = .ok (.iload_n 1, 1) := by decide +kernel
theorem d_M_ahead_52 : decode b_M_ahead 52 = .ok (.invokevirtual 286, 3) := by decide +kernel
theorem d_M_ahead_55 : decode b_M_ahead 55 = .ok (.aload_n 0, 1) := by decide +kernel
theorem d_M_ahead_56 : decode b_M_ahead 56 = .ok (.aload_n 0, 1) := by decide +kernel
theorem d_M_ahead_57 : decode b_M_ahead 57 = .ok (.getfield 25, 3) := by decide +kernel
theorem d_M_ahead_60 : decode b_M_ahead 60 = .ok (.iload_n 2, 1) := by decide +kernel
theorem d_M_ahead_61 : decode b_M_ahead 61 = .ok (.iload_n 3, 1) := by decide +kernel
theorem d_M_ahead_62 : decode b_M_ahead 62 = .ok (.invokevirtual 254, 3) := by decide +kernel
theorem d_M_ahead_65 : decode b_M_ahead 65 = .ok (.ireturn, 1) := by decide +kernel
abbrev b_M_agree : ByteArray := prog_10_method_57_code
abbrev y_M_agree : MethodName := ⟨"TimeFloodModel", "agree", "()I"⟩
theorem m_M_agree : MWV y_M_agree b_M_agree 2 (Option.some FieldType.int) 0 := ⟨wd_991, wd_992, wd_9, wd_993, by decide, by decide, by decide +kernel⟩
theorem d_M_agree_0 : decode b_M_agree 0 = .ok (.aload_n 0, 1) := by decide +kernel
theorem d_M_agree_1 : decode b_M_agree 1 = .ok (.getfield 22, 3) := by decide +kernel
theorem d_M_agree_4 : decode b_M_agree 4 = .ok (.aload_n 0, 1) := by decide +kernel
theorem d_M_agree_5 : decode b_M_agree 5 = .ok (.getfield 25, 3) := by decide +kernel
theorem d_M_agree_8 : decode b_M_agree 8 = .ok (.invokestatic 282, 3) := by decide +kernel
theorem d_M_agree_11 : decode b_M_agree 11 = .ok (.iconst 0, 1) := by decide +kernel
theorem d_M_agree_12 : decode b_M_agree 12 = .ok (.istore_n 1, 1) := by decide +kernel
theorem d_M_agree_13 : decode b_M_agree 13 = .ok (.iload_n 1, 1) := by decide +kernel
theorem d_M_agree_14 : decode b_M_agree 14 = .ok (.bipush 60, 2) := by decide +kernel
theorem d_M_agree_16 : decode b_M_agree 16 = .ok (.if_icmp .gt 30, 3) := by decide +kernel
theorem d_M_agree_19 : decode b_M_agree 19 = .ok (.aload_n 0, 1) := by decide +kernel
theorem d_M_agree_20 : decode b_M_agree 20 = .ok (.aload_n 0, 1) := by decide +kernel
theorem d_M_agree_21 : decode b_M_agree 21 = .ok (.getfield 25, 3) := by decide +kernel
theorem d_M_agree_24 : decode b_M_agree 24 = .ok (.invokevirtual 240, 3) := by decide +kernel
theorem d_M_agree_27 : decode b_M_agree 27 = .ok (.ifCond .eq 5, 3) := by decide +kernel
theorem d_M_agree_30 : decode b_M_agree 30 = .ok (.iload_n 1, 1) := by decide +kernel
theorem d_M_agree_31 : decode b_M_agree 31 = .ok (.ireturn, 1) := by decide +kernel
theorem d_M_agree_32 : decode b_M_agree 32 = .ok (.aload_n 0, 1) := by decide +kernel
theorem d_M_agree_33 : decode b_M_agree 33 = .ok (.aload_n 0, 1) := by decide +kernel
theorem d_M_agree_34 : decode b_M_agree 34 = .ok (.getfield 25, 3) := by decide +kernel
theorem d_M_agree_37 : decode b_M_agree 37 = .ok (.invokevirtual 215, 3) := by decide +kernel
theorem d_M_agree_40 : decode b_M_agree 40 = .ok (.iinc 1 1, 3) := by decide +kernel
theorem d_M_agree_43 : decode b_M_agree 43 = .ok (.goto (-30), 3) := by decide +kernel
theorem d_M_agree_46 : decode b_M_agree 46 = .ok (.bipush (-9), 2) := by decide +kernel
theorem d_M_agree_48 : decode b_M_agree 48 = .ok (.ireturn, 1) := by decide +kernel
abbrev b_M_judged : ByteArray := prog_10_method_58_code
abbrev y_M_judged : MethodName := ⟨"TimeFloodModel", "judged", "(III)Z"⟩
theorem m_M_judged : MWV y_M_judged b_M_judged 4 (Option.some FieldType.boolean) 3 := ⟨wd_1004, wp_41, wd_9, wd_1005, by decide, by decide, by decide +kernel⟩
theorem d_M_judged_0 : decode b_M_judged 0 = .ok (.iload_n 1, 1) := by decide +kernel
theorem d_M_judged_1 : decode b_M_judged 1 = .ok (.tableswitch 246 1 6 #[39, 64, 100, 124, 172, 205], 39) := by decide +kernel
theorem d_M_judged_40 : decode b_M_judged 40 = .ok (.aload_n 0, 1) := by decide +kernel
theorem d_M_judged_41 : decode b_M_judged 41 = .ok (.bipush 10, 2) := by decide +kernel
theorem d_M_judged_43 : decode b_M_judged 43 = .ok (.iload_n 2, 1) := by decide +kernel
theorem d_M_judged_44 : decode b_M_judged 44 = .ok (.imul, 1) := by decide +kernel
theorem d_M_judged_45 : decode b_M_judged 45 = .ok (.iload_n 3, 1) := by decide +kernel
theorem d_M_judged_46 : decode b_M_judged 46 = .ok (.iadd, 1) := by decide +kernel
theorem d_M_judged_47 : decode b_M_judged 47 = .ok (.invokevirtual 286, 3) := by decide +kernel
theorem d_M_judged_50 : decode b_M_judged 50 = .ok (.bipush 10, 2) := by decide +kernel
theorem d_M_judged_52 : decode b_M_judged 52 = .ok (.iload_n 2, 1) := by decide +kernel
theorem d_M_judged_53 : decode b_M_judged 53 = .ok (.imul, 1) := by decide +kernel
theorem d_M_judged_54 : decode b_M_judged 54 = .ok (.iload_n 3, 1) := by decide +kernel
theorem d_M_judged_55 : decode b_M_judged 55 = .ok (.iadd, 1) := by decide +kernel
theorem d_M_judged_56 : decode b_M_judged 56 = .ok (.ifCond .le 7, 3) := by decide +kernel
theorem d_M_judged_59 : decode b_M_judged 59 = .ok (.iconst 1, 1) := by decide +kernel
theorem d_M_judged_60 : decode b_M_judged 60 = .ok (.goto 4, 3) := by decide +kernel
theorem d_M_judged_63 : decode b_M_judged 63 = .ok (.iconst 0, 1) := by decide +kernel
theorem d_M_judged_64 : decode b_M_judged 64 = .ok (.ireturn, 1) := by decide +kernel
theorem d_M_judged_65 : decode b_M_judged 65 = .ok (.iload_n 2, 1) := by decide +kernel
theorem d_M_judged_66 : decode b_M_judged 66 = .ok (.ifCond .ne 11, 3) := by decide +kernel
theorem d_M_judged_69 : decode b_M_judged 69 = .ok (.aload_n 0, 1) := by decide +kernel
theorem d_M_judged_70 : decode b_M_judged 70 = .ok (.iload_n 3, 1) := by decide +kernel
theorem d_M_judged_71 : decode b_M_judged 71 = .ok (.invokevirtual 260, 3) := by decide +kernel
theorem d_M_judged_74 : decode b_M_judged 74 = .ok (.ifCond .ne 5, 3) := by decide +kernel
theorem d_M_judged_77 : decode b_M_judged 77 = .ok (.iconst 0, 1) := by decide +kernel
theorem d_M_judged_78 : decode b_M_judged 78 = .ok (.ireturn, 1) := by decide +kernel
theorem d_M_judged_79 : decode b_M_judged 79 = .ok (.aload_n 0, 1) := by decide +kernel
theorem d_M_judged_80 : decode b_M_judged 80 = .ok (.getfield 25, 3) := by decide +kernel
theorem d_M_judged_83 : decode b_M_judged 83 = .ok (.bipush 95, 2) := by decide +kernel
theorem d_M_judged_85 : decode b_M_judged 85 = .ok (.iload_n 3, 1) := by decide +kernel
theorem d_M_judged_86 : decode b_M_judged 86 = .ok (.iadd, 1) := by decide +kernel
theorem d_M_judged_87 : decode b_M_judged 87 = .ok (.iconst 1, 1) := by decide +kernel
theorem d_M_judged_88 : decode b_M_judged 88 = .ok (.aload_n 0, 1) := by decide +kernel
theorem d_M_judged_89 : decode b_M_judged 89 = .ok (.getfield 25, 3) := by decide +kernel
theorem d_M_judged_92 : decode b_M_judged 92 = .ok (.bipush 95, 2) := by decide +kernel
theorem d_M_judged_94 : decode b_M_judged 94 = .ok (.iload_n 3, 1) := by decide +kernel
theorem d_M_judged_95 : decode b_M_judged 95 = .ok (.iadd, 1) := by decide +kernel
theorem d_M_judged_96 : decode b_M_judged 96 = .ok (.iaload, 1) := by decide +kernel
theorem d_M_judged_97 : decode b_M_judged 97 = .ok (.isub, 1) := by decide +kernel
theorem d_M_judged_98 : decode b_M_judged 98 = .ok (.iastore, 1) := by decide +kernel
theorem d_M_judged_99 : decode b_M_judged 99 = .ok (.iconst 1, 1) := by decide +kernel
theorem d_M_judged_100 : decode b_M_judged 100 = .ok (.ireturn, 1) := by decide +kernel
theorem d_M_judged_101 : decode b_M_judged 101 = .ok (.iload_n 2, 1) := by decide +kernel
theorem d_M_judged_102 : decode b_M_judged 102 = .ok (.ifCond .ne 11, 3) := by decide +kernel
theorem d_M_judged_105 : decode b_M_judged 105 = .ok (.aload_n 0, 1) := by decide +kernel
theorem d_M_judged_106 : decode b_M_judged 106 = .ok (.iload_n 3, 1) := by decide +kernel
theorem d_M_judged_107 : decode b_M_judged 107 = .ok (.invokevirtual 251, 3) := by decide +kernel
theorem d_M_judged_110 : decode b_M_judged 110 = .ok (.ifCond .ne 5, 3) := by decide +kernel
theorem d_M_judged_113 : decode b_M_judged 113 = .ok (.iconst 0, 1) := by decide +kernel
theorem d_M_judged_114 : decode b_M_judged 114 = .ok (.ireturn, 1) := by decide +kernel
theorem d_M_judged_115 : decode b_M_judged 115 = .ok (.aload_n 0, 1) := by decide +kernel
theorem d_M_judged_116 : decode b_M_judged 116 = .ok (.getfield 25, 3) := by decide +kernel
theorem d_M_judged_119 : decode b_M_judged 119 = .ok (.iload_n 3, 1) := by decide +kernel
theorem d_M_judged_120 : decode b_M_judged 120 = .ok (.invokestatic 275, 3) := by decide +kernel
theorem d_M_judged_123 : decode b_M_judged 123 = .ok (.iconst 1, 1) := by decide +kernel
theorem d_M_judged_124 : decode b_M_judged 124 = .ok (.ireturn, 1) := by decide +kernel
theorem d_M_judged_125 : decode b_M_judged 125 = .ok (.aload_n 0, 1) := by decide +kernel
theorem d_M_judged_126 : decode b_M_judged 126 = .ok (.iload_n 2, 1) := by decide +kernel
theorem d_M_judged_127 : decode b_M_judged 127 = .ok (.invokevirtual 251, 3) := by decide +kernel
theorem d_M_judged_130 : decode b_M_judged 130 = .ok (.ifCond .eq 41, 3) := by decide +kernel
theorem d_M_judged_133 : decode b_M_judged 133 = .ok (.aload_n 0, 1) := by decide +kernel
theorem d_M_judged_134 : decode b_M_judged 134 = .ok (.iload_n 3, 1) := by decide +kernel
theorem d_M_judged_135 : decode b_M_judged 135 = .ok (.invokevirtual 251, 3) := by decide +kernel
theorem d_M_judged_138 : decode b_M_judged 138 = .ok (.ifCond .eq 33, 3) := by decide +kernel
theorem d_M_judged_141 : decode b_M_judged 141 = .ok (.aload_n 0, 1) := by decide +kernel
theorem d_M_judged_142 : decode b_M_judged 142 = .ok (.getfield 25, 3) := by decide +kernel
theorem d_M_judged_145 : decode b_M_judged 145 = .ok (.iload_n 2, 1) := by decide +kernel
theorem d_M_judged_146 : decode b_M_judged 146 = .ok (.invokestatic 218, 3) := by decide +kernel
theorem d_M_judged_149 : decode b_M_judged 149 = .ok (.ifCond .eq 22, 3) := by decide +kernel
theorem d_M_judged_152 : decode b_M_judged 152 = .ok (.aload_n 0, 1) := by decide +kernel
theorem d_M_judged_153 : decode b_M_judged 153 = .ok (.getfield 25, 3) := by decide +kernel
theorem d_M_judged_156 : decode b_M_judged 156 = .ok (.bipush 19, 2) := by decide +kernel
theorem d_M_judged_158 : decode b_M_judged 158 = .ok (.iload_n 2, 1) := by decide +kernel
theorem d_M_judged_159 : decode b_M_judged 159 = .ok (.imul, 1) := by decide +kernel
theorem d_M_judged_160 : decode b_M_judged 160 = .ok (.iconst 2, 1) := by decide +kernel
theorem d_M_judged_161 : decode b_M_judged 161 = .ok (.iadd, 1) := by decide +kernel
theorem d_M_judged_162 : decode b_M_judged 162 = .ok (.iaload, 1) := by decide +kernel
theorem d_M_judged_163 : decode b_M_judged 163 = .ok (.iload_n 3, 1) := by decide +kernel
theorem d_M_judged_164 : decode b_M_judged 164 = .ok (.if_icmp .ne 7, 3) := by decide +kernel
theorem d_M_judged_167 : decode b_M_judged 167 = .ok (.iconst 1, 1) := by decide +kernel
theorem d_M_judged_168 : decode b_M_judged 168 = .ok (.goto 4, 3) := by decide +kernel
theorem d_M_judged_171 : decode b_M_judged 171 = .ok (.iconst 0, 1) := by decide +kernel
theorem d_M_judged_172 : decode b_M_judged 172 = .ok (.ireturn, 1) := by decide +kernel
theorem d_M_judged_173 : decode b_M_judged 173 = .ok (.iload_n 2, 1) := by decide +kernel
theorem d_M_judged_174 : decode b_M_judged 174 = .ok (.ifCond .ne 30, 3) := by decide +kernel
theorem d_M_judged_177 : decode b_M_judged 177 = .ok (.aload_n 0, 1) := by decide +kernel
theorem d_M_judged_178 : decode b_M_judged 178 = .ok (.iload_n 3, 1) := by decide +kernel
theorem d_M_judged_179 : decode b_M_judged 179 = .ok (.invokevirtual 251, 3) := by decide +kernel
theorem d_M_judged_182 : decode b_M_judged 182 = .ok (.ifCond .eq 22, 3) := by decide +kernel
theorem d_M_judged_185 : decode b_M_judged 185 = .ok (.aload_n 0, 1) := by decide +kernel
theorem d_M_judged_186 : decode b_M_judged 186 = .ok (.aload_n 0, 1) := by decide +kernel
theorem d_M_judged_187 : decode b_M_judged 187 = .ok (.getfield 25, 3) := by decide +kernel
theorem d_M_judged_190 : decode b_M_judged 190 = .ok (.invokevirtual 233, 3) := by decide +kernel
theorem d_M_judged_193 : decode b_M_judged 193 = .ok (.iload_n 3, 1) := by decide +kernel
theorem d_M_judged_194 : decode b_M_judged 194 = .ok (.invokestatic 290, 3) := by decide +kernel
theorem d_M_judged_197 : decode b_M_judged 197 = .ok (.ifCond .eq 7, 3) := by decide +kernel
theorem d_M_judged_200 : decode b_M_judged 200 = .ok (.iconst 1, 1) := by decide +kernel
theorem d_M_judged_201 : decode b_M_judged 201 = .ok (.goto 4, 3) := by decide +kernel
theorem d_M_judged_204 : decode b_M_judged 204 = .ok (.iconst 0, 1) := by decide +kernel
theorem d_M_judged_205 : decode b_M_judged 205 = .ok (.ireturn, 1) := by decide +kernel
theorem d_M_judged_206 : decode b_M_judged 206 = .ok (.aload_n 0, 1) := by decide +kernel
theorem d_M_judged_207 : decode b_M_judged 207 = .ok (.iload_n 2, 1) := by decide +kernel
theorem d_M_judged_208 : decode b_M_judged 208 = .ok (.invokevirtual 251, 3) := by decide +kernel
theorem d_M_judged_211 : decode b_M_judged 211 = .ok (.ifCond .eq 34, 3) := by decide +kernel
theorem d_M_judged_214 : decode b_M_judged 214 = .ok (.aload_n 0, 1) := by decide +kernel
theorem d_M_judged_215 : decode b_M_judged 215 = .ok (.getfield 25, 3) := by decide +kernel
theorem d_M_judged_218 : decode b_M_judged 218 = .ok (.iload_n 2, 1) := by decide +kernel
theorem d_M_judged_219 : decode b_M_judged 219 = .ok (.invokestatic 218, 3) := by decide +kernel
theorem d_M_judged_222 : decode b_M_judged 222 = .ok (.ifCond .eq 23, 3) := by decide +kernel
theorem d_M_judged_225 : decode b_M_judged 225 = .ok (.aload_n 0, 1) := by decide +kernel
theorem d_M_judged_226 : decode b_M_judged 226 = .ok (.getfield 25, 3) := by decide +kernel
theorem d_M_judged_229 : decode b_M_judged 229 = .ok (.bipush 19, 2) := by decide +kernel
theorem d_M_judged_231 : decode b_M_judged 231 = .ok (.iload_n 2, 1) := by decide +kernel
theorem d_M_judged_232 : decode b_M_judged 232 = .ok (.imul, 1) := by decide +kernel
theorem d_M_judged_233 : decode b_M_judged 233 = .ok (.bipush 6, 2) := by decide +kernel
theorem d_M_judged_235 : decode b_M_judged 235 = .ok (.iadd, 1) := by decide +kernel
theorem d_M_judged_236 : decode b_M_judged 236 = .ok (.iaload, 1) := by decide +kernel
theorem d_M_judged_237 : decode b_M_judged 237 = .ok (.iload_n 3, 1) := by decide +kernel
theorem d_M_judged_238 : decode b_M_judged 238 = .ok (.if_icmp .ne 7, 3) := by decide +kernel
theorem d_M_judged_241 : decode b_M_judged 241 = .ok (.iconst 1, 1) := by decide +kernel
theorem d_M_judged_242 : decode b_M_judged 242 = .ok (.goto 4, 3) := by decide +kernel
theorem d_M_judged_245 : decode b_M_judged 245 = .ok (.iconst 0, 1) := by decide +kernel
theorem d_M_judged_246 : decode b_M_judged 246 = .ok (.ireturn, 1) := by decide +kernel
theorem d_M_judged_247 : decode b_M_judged 247 = .ok (.iconst 0, 1) := by decide +kernel
theorem d_M_judged_248 : decode b_M_judged 248 = .ok (.ireturn, 1) := by decide +kernel
abbrev b_M_thousands : ByteArray := prog_10_method_59_code
abbrev y_M_thousands : MethodName := ⟨"TimeFloodModel", "thousands", "(I)J"⟩
theorem m_M_thousands : MWS y_M_thousands b_M_thousands 4 (Option.some FieldType.long) 1 := ⟨wd_999, wd_9, wd_1000, by decide, by decide, by decide +kernel⟩
theorem d_M_thousands_0 : decode b_M_thousands 0 = .ok (.lconst 1, 1) := by decide +kernel
theorem d_M_thousands_1 : decode b_M_thousands 1 = .ok (.lstore_n 1, 1) := by decide +kernel
theorem d_M_thousands_2 : decode b_M_thousands 2 = .ok (.iconst 0, 1) := by decide +kernel
theorem d_M_thousands_3 : decode b_M_thousands 3 = .ok (.istore_n 3, 1) := by decide +kernel
theorem d_M_thousands_4 : decode b_M_thousands 4 = .ok (.iload_n 3, 1) := by decide +kernel
theorem d_M_thousands_5 : decode b_M_thousands 5 = .ok (.iload_n 0, 1) := by decide +kernel
theorem d_M_thousands_6 : decode b_M_thousands 6 = .ok (.if_icmp .ge 15, 3) := by decide +kernel
theorem d_M_thousands_9 : decode b_M_thousands 9 = .ok (.lload_n 1, 1) := by decide +kernel
theorem d_M_thousands_10 : decode b_M_thousands 10 = .ok (.ldc2_w 293, 3) := by decide +kernel
theorem d_M_thousands_13 : decode b_M_thousands 13 = .ok (.lmul, 1) := by decide +kernel
theorem d_M_thousands_14 : decode b_M_thousands 14 = .ok (.lstore_n 1, 1) := by decide +kernel
theorem d_M_thousands_15 : decode b_M_thousands 15 = .ok (.iinc 3 1, 3) := by decide +kernel
theorem d_M_thousands_18 : decode b_M_thousands 18 = .ok (.goto (-14), 3) := by decide +kernel
theorem d_M_thousands_21 : decode b_M_thousands 21 = .ok (.lload_n 1, 1) := by decide +kernel
theorem d_M_thousands_22 : decode b_M_thousands 22 = .ok (.lreturn, 1) := by decide +kernel
abbrev b_M_judge : ByteArray := prog_10_method_60_code
abbrev y_M_judge : MethodName := ⟨"TimeFloodModel", "judge", "(IJ)I"⟩
theorem m_M_judge : MWV y_M_judge b_M_judge 6 (Option.some FieldType.int) 2 := ⟨wd_995, wd_996, wd_9, wd_997, by decide, by decide, by decide +kernel⟩
theorem d_M_judge_0 : decode b_M_judge 0 = .ok (.iload_n 1, 1) := by decide +kernel
theorem d_M_judge_1 : decode b_M_judge 1 = .ok (.i2l, 1) := by decide +kernel
theorem d_M_judge_2 : decode b_M_judge 2 = .ok (.lconst 1, 1) := by decide +kernel
theorem d_M_judge_3 : decode b_M_judge 3 = .ok (.ldc2_w 247, 3) := by decide +kernel
theorem d_M_judge_6 : decode b_M_judge 6 = .ok (.invokestatic 97, 3) := by decide +kernel
theorem d_M_judge_9 : decode b_M_judge 9 = .ok (.ifCond .eq 17, 3) := by decide +kernel
theorem d_M_judge_12 : decode b_M_judge 12 = .ok (.lload_n 2, 1) := by decide +kernel
theorem d_M_judge_13 : decode b_M_judge 13 = .ok (.lconst 0, 1) := by decide +kernel
theorem d_M_judge_14 : decode b_M_judge 14 = .ok (.iload_n 1, 1) := by decide +kernel
theorem d_M_judge_15 : decode b_M_judge 15 = .ok (.invokestatic 295, 3) := by decide +kernel
theorem d_M_judge_18 : decode b_M_judge 18 = .ok (.lconst 1, 1) := by decide +kernel
theorem d_M_judge_19 : decode b_M_judge 19 = .ok (.lsub, 1) := by decide +kernel
theorem d_M_judge_20 : decode b_M_judge 20 = .ok (.invokestatic 97, 3) := by decide +kernel
theorem d_M_judge_23 : decode b_M_judge 23 = .ok (.ifCond .ne 6, 3) := by decide +kernel
theorem d_M_judge_26 : decode b_M_judge 26 = .ok (.bipush (-2), 2) := by decide +kernel
theorem d_M_judge_28 : decode b_M_judge 28 = .ok (.ireturn, 1) := by decide +kernel
theorem d_M_judge_29 : decode b_M_judge 29 = .ok (.aload_n 0, 1) := by decide +kernel
theorem d_M_judge_30 : decode b_M_judge 30 = .ok (.getfield 22, 3) := by decide +kernel
theorem d_M_judge_33 : decode b_M_judge 33 = .ok (.aload_n 0, 1) := by decide +kernel
theorem d_M_judge_34 : decode b_M_judge 34 = .ok (.getfield 25, 3) := by decide +kernel
theorem d_M_judge_37 : decode b_M_judge 37 = .ok (.invokestatic 282, 3) := by decide +kernel
theorem d_M_judge_40 : decode b_M_judge 40 = .ok (.iconst 0, 1) := by decide +kernel
theorem d_M_judge_41 : decode b_M_judge 41 = .ok (.istore 4, 2) := by decide +kernel
theorem d_M_judge_43 : decode b_M_judge 43 = .ok (.iload 4, 2) := by decide +kernel
theorem d_M_judge_45 : decode b_M_judge 45 = .ok (.iload_n 1, 1) := by decide +kernel
theorem d_M_judge_46 : decode b_M_judge 46 = .ok (.if_icmp .ge 55, 3) := by decide +kernel
theorem d_M_judge_49 : decode b_M_judge 49 = .ok (.lload_n 2, 1) := by decide +kernel
theorem d_M_judge_50 : decode b_M_judge 50 = .ok (.iload_n 1, 1) := by decide +kernel
theorem d_M_judge_51 : decode b_M_judge 51 = .ok (.iconst 1, 1) := by decide +kernel
theorem d_M_judge_52 : decode b_M_judge 52 = .ok (.isub, 1) := by decide +kernel
theorem d_M_judge_53 : decode b_M_judge 53 = .ok (.iload 4, 2) := by decide +kernel
theorem d_M_judge_55 : decode b_M_judge 55 = .ok (.isub, 1) := by decide +kernel
theorem d_M_judge_56 : decode b_M_judge 56 = .ok (.invokestatic 295, 3) := by decide +kernel
theorem d_M_judge_59 : decode b_M_judge 59 = .ok (.ldiv, 1) := by decide +kernel
theorem d_M_judge_60 : decode b_M_judge 60 = .ok (.ldc2_w 293, 3) := by decide +kernel
theorem d_M_judge_63 : decode b_M_judge 63 = .ok (.lrem, 1) := by decide +kernel
theorem d_M_judge_64 : decode b_M_judge 64 = .ok (.l2i, 1) := by decide +kernel
theorem d_M_judge_65 : decode b_M_judge 65 = .ok (.istore 5, 2) := by decide +kernel
theorem d_M_judge_67 : decode b_M_judge 67 = .ok (.aload_n 0, 1) := by decide +kernel
theorem d_M_judge_68 : decode b_M_judge 68 = .ok (.iload 5, 2) := by decide +kernel
theorem d_M_judge_70 : decode b_M_judge 70 = .ok (.bipush 100, 2) := by decide +kernel
theorem d_M_judge_72 : decode b_M_judge 72 = .ok (.idiv, 1) := by decide +kernel
theorem d_M_judge_73 : decode b_M_judge 73 = .ok (.iload 5, 2) := by decide +kernel
theorem d_M_judge_75 : decode b_M_judge 75 = .ok (.bipush 10, 2) := by decide +kernel
theorem d_M_judge_77 : decode b_M_judge 77 = .ok (.idiv, 1) := by decide +kernel
theorem d_M_judge_78 : decode b_M_judge 78 = .ok (.bipush 10, 2) := by decide +kernel
theorem d_M_judge_80 : decode b_M_judge 80 = .ok (.irem, 1) := by decide +kernel
theorem d_M_judge_81 : decode b_M_judge 81 = .ok (.iload 5, 2) := by decide +kernel
theorem d_M_judge_83 : decode b_M_judge 83 = .ok (.bipush 10, 2) := by decide +kernel
theorem d_M_judge_85 : decode b_M_judge 85 = .ok (.irem, 1) := by decide +kernel
theorem d_M_judge_86 : decode b_M_judge 86 = .ok (.invokevirtual 299, 3) := by decide +kernel
theorem d_M_judge_89 : decode b_M_judge 89 = .ok (.ifCond .ne 6, 3) := by decide +kernel
theorem d_M_judge_92 : decode b_M_judge 92 = .ok (.iload 4, 2) := by decide +kernel
theorem d_M_judge_94 : decode b_M_judge 94 = .ok (.ireturn, 1) := by decide +kernel
theorem d_M_judge_95 : decode b_M_judge 95 = .ok (.iinc 4 1, 3) := by decide +kernel
theorem d_M_judge_98 : decode b_M_judge 98 = .ok (.goto (-55), 3) := by decide +kernel
theorem d_M_judge_101 : decode b_M_judge 101 = .ok (.bipush (-9), 2) := by decide +kernel
theorem d_M_judge_103 : decode b_M_judge 103 = .ok (.ireturn, 1) := by decide +kernel
abbrev b_M_see : ByteArray := prog_10_method_61_code
abbrev y_M_see : MethodName := ⟨"TimeFloodModel", "see", "(III)I"⟩
theorem m_M_see : MWV y_M_see b_M_see 4 (Option.some FieldType.int) 3 := ⟨wd_1010, wd_1011, wd_9, wd_1012, by decide, by decide, by decide +kernel⟩
theorem d_M_see_0 : decode b_M_see 0 = .ok (.aload_n 0, 1) := by decide +kernel
theorem d_M_see_1 : decode b_M_see 1 = .ok (.iload_n 1, 1) := by decide +kernel
theorem d_M_see_2 : decode b_M_see 2 = .ok (.invokevirtual 251, 3) := by decide +kernel
theorem d_M_see_5 : decode b_M_see 5 = .ok (.ifCond .ne 5, 3) := by decide +kernel
theorem d_M_see_8 : decode b_M_see 8 = .ok (.iconst (-1), 1) := by decide +kernel
theorem d_M_see_9 : decode b_M_see 9 = .ok (.ireturn, 1) := by decide +kernel
theorem d_M_see_10 : decode b_M_see 10 = .ok (.iload_n 2, 1) := by decide +kernel
theorem d_M_see_11 : decode b_M_see 11 = .ok (.i2l, 1) := by decide +kernel
theorem d_M_see_12 : decode b_M_see 12 = .ok (.lconst 0, 1) := by decide +kernel
theorem d_M_see_13 : decode b_M_see 13 = .ok (.ldc2_w 303, 3) := by decide +kernel
theorem d_M_see_16 : decode b_M_see 16 = .ok (.invokestatic 97, 3) := by decide +kernel
theorem d_M_see_19 : decode b_M_see 19 = .ok (.ifCond .eq 17, 3) := by decide +kernel
theorem d_M_see_22 : decode b_M_see 22 = .ok (.aload_n 0, 1) := by decide +kernel
theorem d_M_see_23 : decode b_M_see 23 = .ok (.iload_n 3, 1) := by decide +kernel
theorem d_M_see_24 : decode b_M_see 24 = .ok (.invokevirtual 251, 3) := by decide +kernel
theorem d_M_see_27 : decode b_M_see 27 = .ok (.ifCond .ne 12, 3) := by decide +kernel
theorem d_M_see_30 : decode b_M_see 30 = .ok (.iload_n 3, 1) := by decide +kernel
theorem d_M_see_31 : decode b_M_see 31 = .ok (.bipush (-9), 2) := by decide +kernel
theorem d_M_see_33 : decode b_M_see 33 = .ok (.if_icmp .eq 6, 3) := by decide +kernel
theorem d_M_see_36 : decode b_M_see 36 = .ok (.bipush (-2), 2) := by decide +kernel
theorem d_M_see_38 : decode b_M_see 38 = .ok (.ireturn, 1) := by decide +kernel
theorem d_M_see_39 : decode b_M_see 39 = .ok (.aload_n 0, 1) := by decide +kernel
theorem d_M_see_40 : decode b_M_see 40 = .ok (.getfield 244, 3) := by decide +kernel
theorem d_M_see_43 : decode b_M_see 43 = .ok (.bipush 6, 2) := by decide +kernel
theorem d_M_see_45 : decode b_M_see 45 = .ok (.if_icmp .ne 6, 3) := by decide +kernel
theorem d_M_see_48 : decode b_M_see 48 = .ok (.bipush (-4), 2) := by decide +kernel
theorem d_M_see_50 : decode b_M_see 50 = .ok (.ireturn, 1) := by decide +kernel
theorem d_M_see_51 : decode b_M_see 51 = .ok (.aload_n 0, 1) := by decide +kernel
theorem d_M_see_52 : decode b_M_see 52 = .ok (.getfield 38, 3) := by decide +kernel
theorem d_M_see_55 : decode b_M_see 55 = .ok (.aload_n 0, 1) := by decide +kernel
theorem d_M_see_56 : decode b_M_see 56 = .ok (.getfield 244, 3) := by decide +kernel
theorem d_M_see_59 : decode b_M_see 59 = .ok (.iload_n 1, 1) := by decide +kernel
theorem d_M_see_60 : decode b_M_see 60 = .ok (.iastore, 1) := by decide +kernel
theorem d_M_see_61 : decode b_M_see 61 = .ok (.aload_n 0, 1) := by decide +kernel
theorem d_M_see_62 : decode b_M_see 62 = .ok (.getfield 41, 3) := by decide +kernel
theorem d_M_see_65 : decode b_M_see 65 = .ok (.aload_n 0, 1) := by decide +kernel
theorem d_M_see_66 : decode b_M_see 66 = .ok (.getfield 244, 3) := by decide +kernel
theorem d_M_see_69 : decode b_M_see 69 = .ok (.iload_n 2, 1) := by decide +kernel
theorem d_M_see_70 : decode b_M_see 70 = .ok (.iastore, 1) := by decide +kernel
theorem d_M_see_71 : decode b_M_see 71 = .ok (.aload_n 0, 1) := by decide +kernel
theorem d_M_see_72 : decode b_M_see 72 = .ok (.getfield 44, 3) := by decide +kernel
theorem d_M_see_75 : decode b_M_see 75 = .ok (.aload_n 0, 1) := by decide +kernel
theorem d_M_see_76 : decode b_M_see 76 = .ok (.getfield 244, 3) := by decide +kernel
theorem d_M_see_79 : decode b_M_see 79 = .ok (.iload_n 3, 1) := by decide +kernel
theorem d_M_see_80 : decode b_M_see 80 = .ok (.iastore, 1) := by decide +kernel
theorem d_M_see_81 : decode b_M_see 81 = .ok (.aload_n 0, 1) := by decide +kernel
theorem d_M_see_82 : decode b_M_see 82 = .ok (.dup, 1) := by decide +kernel
theorem d_M_see_83 : decode b_M_see 83 = .ok (.getfield 244, 3) := by decide +kernel
theorem d_M_see_86 : decode b_M_see 86 = .ok (.iconst 1, 1) := by decide +kernel
theorem d_M_see_87 : decode b_M_see 87 = .ok (.iadd, 1) := by decide +kernel
theorem d_M_see_88 : decode b_M_see 88 = .ok (.putfield 244, 3) := by decide +kernel
theorem d_M_see_91 : decode b_M_see 91 = .ok (.aload_n 0, 1) := by decide +kernel
theorem d_M_see_92 : decode b_M_see 92 = .ok (.getfield 244, 3) := by decide +kernel
theorem d_M_see_95 : decode b_M_see 95 = .ok (.ireturn, 1) := by decide +kernel
abbrev b_M_unsee : ByteArray := prog_10_method_62_code
abbrev y_M_unsee : MethodName := ⟨"TimeFloodModel", "unsee", "()I"⟩
theorem m_M_unsee : MWV y_M_unsee b_M_unsee 2 (Option.some FieldType.int) 0 := ⟨wd_1015, wd_1016, wd_9, wd_1017, by decide, by decide, by decide +kernel⟩
theorem d_M_unsee_0 : decode b_M_unsee 0 = .ok (.aload_n 0, 1) := by decide +kernel
theorem d_M_unsee_1 : decode b_M_unsee 1 = .ok (.getfield 244, 3) := by decide +kernel
theorem d_M_unsee_4 : decode b_M_unsee 4 = .ok (.istore_n 1, 1) := by decide +kernel
theorem d_M_unsee_5 : decode b_M_unsee 5 = .ok (.aload_n 0, 1) := by decide +kernel
theorem d_M_unsee_6 : decode b_M_unsee 6 = .ok (.iconst 0, 1) := by decide +kernel
theorem d_M_unsee_7 : decode b_M_unsee 7 = .ok (.putfield 244, 3) := by decide +kernel
theorem d_M_unsee_10 : decode b_M_unsee 10 = .ok (.iload_n 1, 1) := by decide +kernel
theorem d_M_unsee_11 : decode b_M_unsee 11 = .ok (.ireturn, 1) := by decide +kernel
abbrev b_M_isSoBy : ByteArray := prog_10_method_63_code
abbrev y_M_isSoBy : MethodName := ⟨"TimeFloodModel", "isSoBy", "(II)Z"⟩
theorem m_M_isSoBy : MWV y_M_isSoBy b_M_isSoBy 5 (Option.some FieldType.boolean) 2 := ⟨wd_1024, wp_42, wd_9, wd_1025, by decide, by decide, by decide +kernel⟩
theorem d_M_isSoBy_0 : decode b_M_isSoBy 0 = .ok (.aload_n 0, 1) := by decide +kernel
theorem d_M_isSoBy_1 : decode b_M_isSoBy 1 = .ok (.getfield 38, 3) := by decide +kernel
theorem d_M_isSoBy_4 : decode b_M_isSoBy 4 = .ok (.iload_n 2, 1) := by decide +kernel
theorem d_M_isSoBy_5 : decode b_M_isSoBy 5 = .ok (.iaload, 1) := by decide +kernel
theorem d_M_isSoBy_6 : decode b_M_isSoBy 6 = .ok (.istore_n 3, 1) := by decide +kernel
theorem d_M_isSoBy_7 : decode b_M_isSoBy 7 = .ok (.aload_n 0, 1) := by decide +kernel
theorem d_M_isSoBy_8 : decode b_M_isSoBy 8 = .ok (.iload_n 3, 1) := by decide +kernel
theorem d_M_isSoBy_9 : decode b_M_isSoBy 9 = .ok (.invokevirtual 251, 3) := by decide +kernel
theorem d_M_isSoBy_12 : decode b_M_isSoBy 12 = .ok (.ifCond .ne 5, 3) := by decide +kernel
theorem d_M_isSoBy_15 : decode b_M_isSoBy 15 = .ok (.iconst 1, 1) := by decide +kernel
theorem d_M_isSoBy_16 : decode b_M_isSoBy 16 = .ok (.ireturn, 1) := by decide +kernel
theorem d_M_isSoBy_17 : decode b_M_isSoBy 17 = .ok (.aload_n 0, 1) := by decide +kernel
theorem d_M_isSoBy_18 : decode b_M_isSoBy 18 = .ok (.getfield 22, 3) := by decide +kernel
theorem d_M_isSoBy_21 : decode b_M_isSoBy 21 = .ok (.aload_n 0, 1) := by decide +kernel
theorem d_M_isSoBy_22 : decode b_M_isSoBy 22 = .ok (.getfield 25, 3) := by decide +kernel
theorem d_M_isSoBy_25 : decode b_M_isSoBy 25 = .ok (.invokestatic 282, 3) := by decide +kernel
theorem d_M_isSoBy_28 : decode b_M_isSoBy 28 = .ok (.aload_n 0, 1) := by decide +kernel
theorem d_M_isSoBy_29 : decode b_M_isSoBy 29 = .ok (.getfield 25, 3) := by decide +kernel
theorem d_M_isSoBy_32 : decode b_M_isSoBy 32 = .ok (.bipush 19, 2) := by decide +kernel
theorem d_M_isSoBy_34 : decode b_M_isSoBy 34 = .ok (.iload_n 1, 1) := by decide +kernel
theorem d_M_isSoBy_35 : decode b_M_isSoBy 35 = .ok (.imul, 1) := by decide +kernel
theorem d_M_isSoBy_36 : decode b_M_isSoBy 36 = .ok (.iconst 0, 1) := by decide +kernel
theorem d_M_isSoBy_37 : decode b_M_isSoBy 37 = .ok (.iadd, 1) := by decide +kernel
theorem d_M_isSoBy_38 : decode b_M_isSoBy 38 = .ok (.iconst 0, 1) := by decide +kernel
theorem d_M_isSoBy_39 : decode b_M_isSoBy 39 = .ok (.iastore, 1) := by decide +kernel
theorem d_M_isSoBy_40 : decode b_M_isSoBy 40 = .ok (.aload_n 0, 1) := by decide +kernel
theorem d_M_isSoBy_41 : decode b_M_isSoBy 41 = .ok (.aload_n 0, 1) := by decide +kernel
theorem d_M_isSoBy_42 : decode b_M_isSoBy 42 = .ok (.getfield 41, 3) := by decide +kernel
theorem d_M_isSoBy_45 : decode b_M_isSoBy 45 = .ok (.iload_n 2, 1) := by decide +kernel
theorem d_M_isSoBy_46 : decode b_M_isSoBy 46 = .ok (.iaload, 1) := by decide +kernel
theorem d_M_isSoBy_47 : decode b_M_isSoBy 47 = .ok (.invokevirtual 286, 3) := by decide +kernel
theorem d_M_isSoBy_50 : decode b_M_isSoBy 50 = .ok (.aload_n 0, 1) := by decide +kernel
theorem d_M_isSoBy_51 : decode b_M_isSoBy 51 = .ok (.getfield 25, 3) := by decide +kernel
theorem d_M_isSoBy_54 : decode b_M_isSoBy 54 = .ok (.iload_n 3, 1) := by decide +kernel
theorem d_M_isSoBy_55 : decode b_M_isSoBy 55 = .ok (.invokestatic 218, 3) := by decide +kernel
theorem d_M_isSoBy_58 : decode b_M_isSoBy 58 = .ok (.ifCond .eq 17, 3) := by decide +kernel
theorem d_M_isSoBy_61 : decode b_M_isSoBy 61 = .ok (.aload_n 0, 1) := by decide +kernel
theorem d_M_isSoBy_62 : decode b_M_isSoBy 62 = .ok (.getfield 25, 3) := by decide +kernel
theorem d_M_isSoBy_65 : decode b_M_isSoBy 65 = .ok (.bipush 19, 2) := by decide +kernel
theorem d_M_isSoBy_67 : decode b_M_isSoBy 67 = .ok (.iload_n 3, 1) := by decide +kernel
theorem d_M_isSoBy_68 : decode b_M_isSoBy 68 = .ok (.imul, 1) := by decide +kernel
theorem d_M_isSoBy_69 : decode b_M_isSoBy 69 = .ok (.iconst 2, 1) := by decide +kernel
theorem d_M_isSoBy_70 : decode b_M_isSoBy 70 = .ok (.iadd, 1) := by decide +kernel
theorem d_M_isSoBy_71 : decode b_M_isSoBy 71 = .ok (.iaload, 1) := by decide +kernel
theorem d_M_isSoBy_72 : decode b_M_isSoBy 72 = .ok (.goto 5, 3) := by decide +kernel
theorem d_M_isSoBy_75 : decode b_M_isSoBy 75 = .ok (.bipush (-9), 2) := by decide +kernel
theorem d_M_isSoBy_77 : decode b_M_isSoBy 77 = .ok (.istore 4, 2) := by decide +kernel
theorem d_M_isSoBy_79 : decode b_M_isSoBy 79 = .ok (.iload 4, 2) := by decide +kernel
theorem d_M_isSoBy_81 : decode b_M_isSoBy 81 = .ok (.aload_n 0, 1) := by decide +kernel
theorem d_M_isSoBy_82 : decode b_M_isSoBy 82 = .ok (.getfield 44, 3) := by decide +kernel
theorem d_M_isSoBy_85 : decode b_M_isSoBy 85 = .ok (.iload_n 2, 1) := by decide +kernel
theorem d_M_isSoBy_86 : decode b_M_isSoBy 86 = .ok (.iaload, 1) := by decide +kernel
theorem d_M_isSoBy_87 : decode b_M_isSoBy 87 = .ok (.if_icmp .ne 7, 3) := by decide +kernel
theorem d_M_isSoBy_90 : decode b_M_isSoBy 90 = .ok (.iconst 1, 1) := by decide +kernel
theorem d_M_isSoBy_91 : decode b_M_isSoBy 91 = .ok (.goto 4, 3) := by decide +kernel
theorem d_M_isSoBy_94 : decode b_M_isSoBy 94 = .ok (.iconst 0, 1) := by decide +kernel
theorem d_M_isSoBy_95 : decode b_M_isSoBy 95 = .ok (.ireturn, 1) := by decide +kernel
abbrev b_M_which : ByteArray := prog_10_method_64_code
abbrev y_M_which : MethodName := ⟨"TimeFloodModel", "which", "()I"⟩
theorem m_M_which : MWV y_M_which b_M_which 5 (Option.some FieldType.int) 0 := ⟨wd_1019, wd_1020, wd_9, wd_1021, by decide, by decide, by decide +kernel⟩
theorem d_M_which_0 : decode b_M_which 0 = .ok (.iconst 0, 1) := by decide +kernel
theorem d_M_which_1 : decode b_M_which 1 = .ok (.istore_n 1, 1) := by decide +kernel
theorem d_M_which_2 : decode b_M_which 2 = .ok (.iconst 0, 1) := by decide +kernel
theorem d_M_which_3 : decode b_M_which 3 = .ok (.istore_n 2, 1) := by decide +kernel
theorem d_M_which_4 : decode b_M_which 4 = .ok (.iload_n 2, 1) := by decide +kernel
theorem d_M_which_5 : decode b_M_which 5 = .ok (.aload_n 0, 1) := by decide +kernel
theorem d_M_which_6 : decode b_M_which 6 = .ok (.getfield 94, 3) := by decide +kernel
theorem d_M_which_9 : decode b_M_which 9 = .ok (.if_icmp .ge 70, 3) := by decide +kernel
theorem d_M_which_12 : decode b_M_which 12 = .ok (.aload_n 0, 1) := by decide +kernel
theorem d_M_which_13 : decode b_M_which 13 = .ok (.getfield 22, 3) := by decide +kernel
theorem d_M_which_16 : decode b_M_which 16 = .ok (.iload_n 2, 1) := by decide +kernel
theorem d_M_which_17 : decode b_M_which 17 = .ok (.invokestatic 218, 3) := by decide +kernel
theorem d_M_which_20 : decode b_M_which 20 = .ok (.istore_n 3, 1) := by decide +kernel
theorem d_M_which_21 : decode b_M_which 21 = .ok (.iconst 0, 1) := by decide +kernel
theorem d_M_which_22 : decode b_M_which 22 = .ok (.istore 4, 2) := by decide +kernel
theorem d_M_which_24 : decode b_M_which 24 = .ok (.iload 4, 2) := by decide +kernel
theorem d_M_which_26 : decode b_M_which 26 = .ok (.aload_n 0, 1) := by decide +kernel
theorem d_M_which_27 : decode b_M_which 27 = .ok (.getfield 244, 3) := by decide +kernel
theorem d_M_which_30 : decode b_M_which 30 = .ok (.if_icmp .ge 29, 3) := by decide +kernel
theorem d_M_which_33 : decode b_M_which 33 = .ok (.iload_n 3, 1) := by decide +kernel
theorem d_M_which_34 : decode b_M_which 34 = .ok (.ifCond .eq 17, 3) := by decide +kernel
theorem d_M_which_37 : decode b_M_which 37 = .ok (.aload_n 0, 1) := by decide +kernel
theorem d_M_which_38 : decode b_M_which 38 = .ok (.iload_n 2, 1) := by decide +kernel
theorem d_M_which_39 : decode b_M_which 39 = .ok (.iload 4, 2) := by decide +kernel
theorem d_M_which_41 : decode b_M_which 41 = .ok (.invokevirtual 305, 3) := by decide +kernel
theorem d_M_which_44 : decode b_M_which 44 = .ok (.ifCond .eq 7, 3) := by decide +kernel
theorem d_M_which_47 : decode b_M_which 47 = .ok (.iconst 1, 1) := by decide +kernel
theorem d_M_which_48 : decode b_M_which 48 = .ok (.goto 4, 3) := by decide +kernel
theorem d_M_which_51 : decode b_M_which 51 = .ok (.iconst 0, 1) := by decide +kernel
theorem d_M_which_52 : decode b_M_which 52 = .ok (.istore_n 3, 1) := by decide +kernel
theorem d_M_which_53 : decode b_M_which 53 = .ok (.iinc 4 1, 3) := by decide +kernel
theorem d_M_which_56 : decode b_M_which 56 = .ok (.goto (-32), 3) := by decide +kernel
theorem d_M_which_59 : decode b_M_which 59 = .ok (.iload_n 1, 1) := by decide +kernel
theorem d_M_which_60 : decode b_M_which 60 = .ok (.iload_n 3, 1) := by decide +kernel
theorem d_M_which_61 : decode b_M_which 61 = .ok (.ifCond .eq 9, 3) := by decide +kernel
theorem d_M_which_64 : decode b_M_which 64 = .ok (.iconst 1, 1) := by decide +kernel
theorem d_M_which_65 : decode b_M_which 65 = .ok (.iload_n 2, 1) := by decide +kernel
theorem d_M_which_66 : decode b_M_which 66 = .ok (.ishl, 1) := by decide +kernel
theorem d_M_which_67 : decode b_M_which 67 = .ok (.goto 4, 3) := by decide +kernel
theorem d_M_which_70 : decode b_M_which 70 = .ok (.iconst 0, 1) := by decide +kernel
theorem d_M_which_71 : decode b_M_which 71 = .ok (.ior, 1) := by decide +kernel
theorem d_M_which_72 : decode b_M_which 72 = .ok (.istore_n 1, 1) := by decide +kernel
theorem d_M_which_73 : decode b_M_which 73 = .ok (.iinc 2 1, 3) := by decide +kernel
theorem d_M_which_76 : decode b_M_which 76 = .ok (.goto (-72), 3) := by decide +kernel
theorem d_M_which_79 : decode b_M_which 79 = .ok (.iload_n 1, 1) := by decide +kernel
theorem d_M_which_80 : decode b_M_which 80 = .ok (.ireturn, 1) := by decide +kernel
abbrev b_M_inTimeBy : ByteArray := prog_10_method_65_code
abbrev y_M_inTimeBy : MethodName := ⟨"TimeFloodModel", "inTimeBy", "(I)I"⟩
theorem m_M_inTimeBy : MWV y_M_inTimeBy b_M_inTimeBy 3 (Option.some FieldType.int) 1 := ⟨wd_1032, wp_43, wd_9, wd_1033, by decide, by decide, by decide +kernel⟩
theorem d_M_inTimeBy_0 : decode b_M_inTimeBy 0 = .ok (.aload_n 0, 1) := by decide +kernel
theorem d_M_inTimeBy_1 : decode b_M_inTimeBy 1 = .ok (.getfield 22, 3) := by decide +kernel
theorem d_M_inTimeBy_4 : decode b_M_inTimeBy 4 = .ok (.aload_n 0, 1) := by decide +kernel
theorem d_M_inTimeBy_5 : decode b_M_inTimeBy 5 = .ok (.getfield 25, 3) := by decide +kernel
theorem d_M_inTimeBy_8 : decode b_M_inTimeBy 8 = .ok (.invokestatic 282, 3) := by decide +kernel
theorem d_M_inTimeBy_11 : decode b_M_inTimeBy 11 = .ok (.iconst 0, 1) := by decide +kernel
theorem d_M_inTimeBy_12 : decode b_M_inTimeBy 12 = .ok (.istore_n 2, 1) := by decide +kernel
theorem d_M_inTimeBy_13 : decode b_M_inTimeBy 13 = .ok (.iload_n 2, 1) := by decide +kernel
theorem d_M_inTimeBy_14 : decode b_M_inTimeBy 14 = .ok (.aload_n 0, 1) := by decide +kernel
theorem d_M_inTimeBy_15 : decode b_M_inTimeBy 15 = .ok (.getfield 94, 3) := by decide +kernel
theorem d_M_inTimeBy_18 : decode b_M_inTimeBy 18 = .ok (.if_icmp .ge 43, 3) := by decide +kernel
theorem d_M_inTimeBy_21 : decode b_M_inTimeBy 21 = .ok (.aload_n 0, 1) := by decide +kernel
theorem d_M_inTimeBy_22 : decode b_M_inTimeBy 22 = .ok (.getfield 25, 3) := by decide +kernel
theorem d_M_inTimeBy_25 : decode b_M_inTimeBy 25 = .ok (.bipush 19, 2) := by decide +kernel
theorem d_M_inTimeBy_27 : decode b_M_inTimeBy 27 = .ok (.iload_n 2, 1) := by decide +kernel
theorem d_M_inTimeBy_28 : decode b_M_inTimeBy 28 = .ok (.imul, 1) := by decide +kernel
theorem d_M_inTimeBy_29 : decode b_M_inTimeBy 29 = .ok (.iconst 0, 1) := by decide +kernel
theorem d_M_inTimeBy_30 : decode b_M_inTimeBy 30 = .ok (.iadd, 1) := by decide +kernel
theorem d_M_inTimeBy_31 : decode b_M_inTimeBy 31 = .ok (.iload_n 1, 1) := by decide +kernel
theorem d_M_inTimeBy_32 : decode b_M_inTimeBy 32 = .ok (.iload_n 2, 1) := by decide +kernel
theorem d_M_inTimeBy_33 : decode b_M_inTimeBy 33 = .ok (.invokestatic 290, 3) := by decide +kernel
theorem d_M_inTimeBy_36 : decode b_M_inTimeBy 36 = .ok (.ifCond .eq 17, 3) := by decide +kernel
theorem d_M_inTimeBy_39 : decode b_M_inTimeBy 39 = .ok (.aload_n 0, 1) := by decide +kernel
theorem d_M_inTimeBy_40 : decode b_M_inTimeBy 40 = .ok (.getfield 25, 3) := by decide +kernel
theorem d_M_inTimeBy_43 : decode b_M_inTimeBy 43 = .ok (.bipush 19, 2) := by decide +kernel
theorem d_M_inTimeBy_45 : decode b_M_inTimeBy 45 = .ok (.iload_n 2, 1) := by decide +kernel
theorem d_M_inTimeBy_46 : decode b_M_inTimeBy 46 = .ok (.imul, 1) := by decide +kernel
theorem d_M_inTimeBy_47 : decode b_M_inTimeBy 47 = .ok (.iconst 0, 1) := by decide +kernel
theorem d_M_inTimeBy_48 : decode b_M_inTimeBy 48 = .ok (.iadd, 1) := by decide +kernel
theorem d_M_inTimeBy_49 : decode b_M_inTimeBy 49 = .ok (.iaload, 1) := by decide +kernel
theorem d_M_inTimeBy_50 : decode b_M_inTimeBy 50 = .ok (.goto 4, 3) := by decide +kernel
theorem d_M_inTimeBy_53 : decode b_M_inTimeBy 53 = .ok (.iconst 0, 1) := by decide +kernel
theorem d_M_inTimeBy_54 : decode b_M_inTimeBy 54 = .ok (.iastore, 1) := by decide +kernel
theorem d_M_inTimeBy_55 : decode b_M_inTimeBy 55 = .ok (.iinc 2 1, 3) := by decide +kernel
theorem d_M_inTimeBy_58 : decode b_M_inTimeBy 58 = .ok (.goto (-45), 3) := by decide +kernel
theorem d_M_inTimeBy_61 : decode b_M_inTimeBy 61 = .ok (.aload_n 0, 1) := by decide +kernel
theorem d_M_inTimeBy_62 : decode b_M_inTimeBy 62 = .ok (.bipush 12, 2) := by decide +kernel
theorem d_M_inTimeBy_64 : decode b_M_inTimeBy 64 = .ok (.invokevirtual 286, 3) := by decide +kernel
theorem d_M_inTimeBy_67 : decode b_M_inTimeBy 67 = .ok (.aload_n 0, 1) := by decide +kernel
theorem d_M_inTimeBy_68 : decode b_M_inTimeBy 68 = .ok (.aload_n 0, 1) := by decide +kernel
theorem d_M_inTimeBy_69 : decode b_M_inTimeBy 69 = .ok (.getfield 25, 3) := by decide +kernel
theorem d_M_inTimeBy_72 : decode b_M_inTimeBy 72 = .ok (.invokevirtual 233, 3) := by decide +kernel
theorem d_M_inTimeBy_75 : decode b_M_inTimeBy 75 = .ok (.invokestatic 271, 3) := by decide +kernel
theorem d_M_inTimeBy_78 : decode b_M_inTimeBy 78 = .ok (.ireturn, 1) := by decide +kernel
abbrev b_M_share : ByteArray := prog_10_method_66_code
abbrev y_M_share : MethodName := ⟨"TimeFloodModel", "share", "(IZ)I"⟩
theorem m_M_share : MWV y_M_share b_M_share 8 (Option.some FieldType.int) 2 := ⟨wd_1027, wd_1028, wd_9, wd_1029, by decide, by decide, by decide +kernel⟩
theorem d_M_share_0 : decode b_M_share 0 = .ok (.aload_n 0, 1) := by decide +kernel
theorem d_M_share_1 : decode b_M_share 1 = .ok (.iload_n 1, 1) := by decide +kernel
theorem d_M_share_2 : decode b_M_share 2 = .ok (.invokevirtual 251, 3) := by decide +kernel
theorem d_M_share_5 : decode b_M_share 5 = .ok (.ifCond .ne 5, 3) := by decide +kernel
theorem d_M_share_8 : decode b_M_share 8 = .ok (.iconst (-1), 1) := by decide +kernel
theorem d_M_share_9 : decode b_M_share 9 = .ok (.ireturn, 1) := by decide +kernel
theorem d_M_share_10 : decode b_M_share 10 = .ok (.aload_n 0, 1) := by decide +kernel
theorem d_M_share_11 : decode b_M_share 11 = .ok (.getfield 22, 3) := by decide +kernel
theorem d_M_share_14 : decode b_M_share 14 = .ok (.iload_n 1, 1) := by decide +kernel
theorem d_M_share_15 : decode b_M_share 15 = .ok (.invokestatic 218, 3) := by decide +kernel
theorem d_M_share_18 : decode b_M_share 18 = .ok (.ifCond .ne 6, 3) := by decide +kernel
theorem d_M_share_21 : decode b_M_share 21 = .ok (.bipush (-3), 2) := by decide +kernel
theorem d_M_share_23 : decode b_M_share 23 = .ok (.ireturn, 1) := by decide +kernel
theorem d_M_share_24 : decode b_M_share 24 = .ok (.aload_n 0, 1) := by decide +kernel
theorem d_M_share_25 : decode b_M_share 25 = .ok (.iconst 0, 1) := by decide +kernel
theorem d_M_share_26 : decode b_M_share 26 = .ok (.invokevirtual 229, 3) := by decide +kernel
theorem d_M_share_29 : decode b_M_share 29 = .ok (.istore_n 3, 1) := by decide +kernel
theorem d_M_share_30 : decode b_M_share 30 = .ok (.iload_n 3, 1) := by decide +kernel
theorem d_M_share_31 : decode b_M_share 31 = .ok (.invokestatic 271, 3) := by decide +kernel
theorem d_M_share_34 : decode b_M_share 34 = .ok (.istore 4, 2) := by decide +kernel
theorem d_M_share_36 : decode b_M_share 36 = .ok (.iconst 0, 1) := by decide +kernel
theorem d_M_share_37 : decode b_M_share 37 = .ok (.istore 5, 2) := by decide +kernel
theorem d_M_share_39 : decode b_M_share 39 = .ok (.iload 5, 2) := by decide +kernel
theorem d_M_share_41 : decode b_M_share 41 = .ok (.bipush 32, 2) := by decide +kernel
theorem d_M_share_43 : decode b_M_share 43 = .ok (.if_icmp .ge 35, 3) := by decide +kernel
theorem d_M_share_46 : decode b_M_share 46 = .ok (.aload_n 0, 1) := by decide +kernel
theorem d_M_share_47 : decode b_M_share 47 = .ok (.getfield 62, 3) := by decide +kernel
theorem d_M_share_50 : decode b_M_share 50 = .ok (.iload 5, 2) := by decide +kernel
theorem d_M_share_52 : decode b_M_share 52 = .ok (.iload 5, 2) := by decide +kernel
theorem d_M_share_54 : decode b_M_share 54 = .ok (.iload_n 3, 1) := by decide +kernel
theorem d_M_share_55 : decode b_M_share 55 = .ok (.iconst (-1), 1) := by decide +kernel
theorem d_M_share_56 : decode b_M_share 56 = .ok (.ixor, 1) := by decide +kernel
theorem d_M_share_57 : decode b_M_share 57 = .ok (.iand, 1) := by decide +kernel
theorem d_M_share_58 : decode b_M_share 58 = .ok (.ifCond .ne 12, 3) := by decide +kernel
theorem d_M_share_61 : decode b_M_share 61 = .ok (.aload_n 0, 1) := by decide +kernel
theorem d_M_share_62 : decode b_M_share 62 = .ok (.iload 5, 2) := by decide +kernel
theorem d_M_share_64 : decode b_M_share 64 = .ok (.invokevirtual 308, 3) := by decide +kernel
theorem d_M_share_67 : decode b_M_share 67 = .ok (.goto 4, 3) := by decide +kernel
theorem d_M_share_70 : decode b_M_share 70 = .ok (.iconst 0, 1) := by decide +kernel
theorem d_M_share_71 : decode b_M_share 71 = .ok (.iastore, 1) := by decide +kernel
theorem d_M_share_72 : decode b_M_share 72 = .ok (.iinc 5 1, 3) := by decide +kernel
theorem d_M_share_75 : decode b_M_share 75 = .ok (.goto (-36), 3) := by decide +kernel
theorem d_M_share_78 : decode b_M_share 78 = .ok (.iconst 0, 1) := by decide +kernel
theorem d_M_share_79 : decode b_M_share 79 = .ok (.istore 5, 2) := by decide +kernel
theorem d_M_share_81 : decode b_M_share 81 = .ok (.iconst 0, 1) := by decide +kernel
theorem d_M_share_82 : decode b_M_share 82 = .ok (.istore 6, 2) := by decide +kernel
theorem d_M_share_84 : decode b_M_share 84 = .ok (.iload 6, 2) := by decide +kernel
theorem d_M_share_86 : decode b_M_share 86 = .ok (.bipush 32, 2) := by decide +kernel
theorem d_M_share_88 : decode b_M_share 88 = .ok (.if_icmp .ge 75, 3) := by decide +kernel
theorem d_M_share_91 : decode b_M_share 91 = .ok (.iload 6, 2) := by decide +kernel
theorem d_M_share_93 : decode b_M_share 93 = .ok (.iload_n 3, 1) := by decide +kernel
theorem d_M_share_94 : decode b_M_share 94 = .ok (.iconst (-1), 1) := by decide +kernel
theorem d_M_share_95 : decode b_M_share 95 = .ok (.ixor, 1) := by decide +kernel
theorem d_M_share_96 : decode b_M_share 96 = .ok (.iand, 1) := by decide +kernel
theorem d_M_share_97 : decode b_M_share 97 = .ok (.ifCond .ne 60, 3) := by decide +kernel
theorem d_M_share_100 : decode b_M_share 100 = .ok (.iload 6, 2) := by decide +kernel
theorem d_M_share_102 : decode b_M_share 102 = .ok (.iload_n 1, 1) := by decide +kernel
theorem d_M_share_103 : decode b_M_share 103 = .ok (.invokestatic 290, 3) := by decide +kernel
theorem d_M_share_106 : decode b_M_share 106 = .ok (.ifCond .ne 51, 3) := by decide +kernel
theorem d_M_share_109 : decode b_M_share 109 = .ok (.iload 6, 2) := by decide +kernel
theorem d_M_share_111 : decode b_M_share 111 = .ok (.invokestatic 271, 3) := by decide +kernel
theorem d_M_share_114 : decode b_M_share 114 = .ok (.istore 7, 2) := by decide +kernel
theorem d_M_share_116 : decode b_M_share 116 = .ok (.iload 5, 2) := by decide +kernel
theorem d_M_share_118 : decode b_M_share 118 = .ok (.iload 7, 2) := by decide +kernel
theorem d_M_share_120 : decode b_M_share 120 = .ok (.invokestatic 311, 3) := by decide +kernel
theorem d_M_share_123 : decode b_M_share 123 = .ok (.iload 4, 2) := by decide +kernel
theorem d_M_share_125 : decode b_M_share 125 = .ok (.iconst 1, 1) := by decide +kernel
theorem d_M_share_126 : decode b_M_share 126 = .ok (.isub, 1) := by decide +kernel
theorem d_M_share_127 : decode b_M_share 127 = .ok (.iload 7, 2) := by decide +kernel
theorem d_M_share_129 : decode b_M_share 129 = .ok (.isub, 1) := by decide +kernel
theorem d_M_share_130 : decode b_M_share 130 = .ok (.invokestatic 311, 3) := by decide +kernel
theorem d_M_share_133 : decode b_M_share 133 = .ok (.imul, 1) := by decide +kernel
theorem d_M_share_134 : decode b_M_share 134 = .ok (.aload_n 0, 1) := by decide +kernel
theorem d_M_share_135 : decode b_M_share 135 = .ok (.getfield 62, 3) := by decide +kernel
theorem d_M_share_138 : decode b_M_share 138 = .ok (.iload 6, 2) := by decide +kernel
theorem d_M_share_140 : decode b_M_share 140 = .ok (.iconst 1, 1) := by decide +kernel
theorem d_M_share_141 : decode b_M_share 141 = .ok (.iload_n 1, 1) := by decide +kernel
theorem d_M_share_142 : decode b_M_share 142 = .ok (.ishl, 1) := by decide +kernel
theorem d_M_share_143 : decode b_M_share 143 = .ok (.ior, 1) := by decide +kernel
theorem d_M_share_144 : decode b_M_share 144 = .ok (.iaload, 1) := by decide +kernel
theorem d_M_share_145 : decode b_M_share 145 = .ok (.aload_n 0, 1) := by decide +kernel
theorem d_M_share_146 : decode b_M_share 146 = .ok (.getfield 62, 3) := by decide +kernel
theorem d_M_share_149 : decode b_M_share 149 = .ok (.iload 6, 2) := by decide +kernel
theorem d_M_share_151 : decode b_M_share 151 = .ok (.iaload, 1) := by decide +kernel
theorem d_M_share_152 : decode b_M_share 152 = .ok (.isub, 1) := by decide +kernel
theorem d_M_share_153 : decode b_M_share 153 = .ok (.imul, 1) := by decide +kernel
theorem d_M_share_154 : decode b_M_share 154 = .ok (.iadd, 1) := by decide +kernel
theorem d_M_share_155 : decode b_M_share 155 = .ok (.istore 5, 2) := by decide +kernel
theorem d_M_share_157 : decode b_M_share 157 = .ok (.iinc 6 1, 3) := by decide +kernel
theorem d_M_share_160 : decode b_M_share 160 = .ok (.goto (-76), 3) := by decide +kernel
theorem d_M_share_163 : decode b_M_share 163 = .ok (.iload 5, 2) := by decide +kernel
theorem d_M_share_165 : decode b_M_share 165 = .ok (.iload 4, 2) := by decide +kernel
theorem d_M_share_167 : decode b_M_share 167 = .ok (.invokestatic 311, 3) := by decide +kernel
theorem d_M_share_170 : decode b_M_share 170 = .ok (.iload_n 2, 1) := by decide +kernel
theorem d_M_share_171 : decode b_M_share 171 = .ok (.invokestatic 314, 3) := by decide +kernel
theorem d_M_share_174 : decode b_M_share 174 = .ok (.ireturn, 1) := by decide +kernel
abbrev b_M_chance : ByteArray := prog_10_method_67_code
abbrev y_M_chance : MethodName := ⟨"TimeFloodModel", "chance", "(IIZ)I"⟩
theorem m_M_chance : MWV y_M_chance b_M_chance 9 (Option.some FieldType.int) 3 := ⟨wd_1041, wd_1042, wd_9, wd_1043, by decide, by decide, by decide +kernel⟩
theorem d_M_chance_0 : decode b_M_chance 0 = .ok (.iload_n 1, 1) := by decide +kernel
theorem d_M_chance_1 : decode b_M_chance 1 = .ok (.i2l, 1) := by decide +kernel
theorem d_M_chance_2 : decode b_M_chance 2 = .ok (.lconst 0, 1) := by decide +kernel
theorem d_M_chance_3 : decode b_M_chance 3 = .ok (.ldc2_w 303, 3) := by decide +kernel
theorem d_M_chance_6 : decode b_M_chance 6 = .ok (.invokestatic 97, 3) := by decide +kernel
theorem d_M_chance_9 : decode b_M_chance 9 = .ok (.ifCond .eq 15, 3) := by decide +kernel
theorem d_M_chance_12 : decode b_M_chance 12 = .ok (.iload_n 2, 1) := by decide +kernel
theorem d_M_chance_13 : decode b_M_chance 13 = .ok (.i2l, 1) := by decide +kernel
theorem d_M_chance_14 : decode b_M_chance 14 = .ok (.lconst 0, 1) := by decide +kernel
theorem d_M_chance_15 : decode b_M_chance 15 = .ok (.ldc2_w 249, 3) := by decide +kernel
theorem d_M_chance_18 : decode b_M_chance 18 = .ok (.invokestatic 97, 3) := by decide +kernel
theorem d_M_chance_21 : decode b_M_chance 21 = .ok (.ifCond .ne 6, 3) := by decide +kernel
theorem d_M_chance_24 : decode b_M_chance 24 = .ok (.bipush (-2), 2) := by decide +kernel
theorem d_M_chance_26 : decode b_M_chance 26 = .ok (.ireturn, 1) := by decide +kernel
theorem d_M_chance_27 : decode b_M_chance 27 = .ok (.iconst 1, 1) := by decide +kernel
theorem d_M_chance_28 : decode b_M_chance 28 = .ok (.aload_n 0, 1) := by decide +kernel
theorem d_M_chance_29 : decode b_M_chance 29 = .ok (.getfield 101, 3) := by decide +kernel
theorem d_M_chance_32 : decode b_M_chance 32 = .ok (.ishl, 1) := by decide +kernel
theorem d_M_chance_33 : decode b_M_chance 33 = .ok (.iconst 1, 1) := by decide +kernel
theorem d_M_chance_34 : decode b_M_chance 34 = .ok (.isub, 1) := by decide +kernel
theorem d_M_chance_35 : decode b_M_chance 35 = .ok (.aload_n 0, 1) := by decide +kernel
theorem d_M_chance_36 : decode b_M_chance 36 = .ok (.invokevirtual 237, 3) := by decide +kernel
theorem d_M_chance_39 : decode b_M_chance 39 = .ok (.iconst (-1), 1) := by decide +kernel
theorem d_M_chance_40 : decode b_M_chance 40 = .ok (.ixor, 1) := by decide +kernel
theorem d_M_chance_41 : decode b_M_chance 41 = .ok (.iand, 1) := by decide +kernel
theorem d_M_chance_42 : decode b_M_chance 42 = .ok (.istore 4, 2) := by decide +kernel
theorem d_M_chance_44 : decode b_M_chance 44 = .ok (.iload 4, 2) := by decide +kernel
theorem d_M_chance_46 : decode b_M_chance 46 = .ok (.invokestatic 271, 3) := by decide +kernel
theorem d_M_chance_49 : decode b_M_chance 49 = .ok (.istore 5, 2) := by decide +kernel
theorem d_M_chance_51 : decode b_M_chance 51 = .ok (.iconst 0, 1) := by decide +kernel
theorem d_M_chance_52 : decode b_M_chance 52 = .ok (.istore 6, 2) := by decide +kernel
theorem d_M_chance_54 : decode b_M_chance 54 = .ok (.iconst 0, 1) := by decide +kernel
theorem d_M_chance_55 : decode b_M_chance 55 = .ok (.istore 7, 2) := by decide +kernel
theorem d_M_chance_57 : decode b_M_chance 57 = .ok (.iload 7, 2) := by decide +kernel
theorem d_M_chance_59 : decode b_M_chance 59 = .ok (.iconst 1, 1) := by decide +kernel
theorem d_M_chance_60 : decode b_M_chance 60 = .ok (.aload_n 0, 1) := by decide +kernel
theorem d_M_chance_61 : decode b_M_chance 61 = .ok (.getfield 101, 3) := by decide +kernel
theorem d_M_chance_64 : decode b_M_chance 64 = .ok (.ishl, 1) := by decide +kernel
theorem d_M_chance_65 : decode b_M_chance 65 = .ok (.if_icmp .ge 132, 3) := by decide +kernel
theorem d_M_chance_68 : decode b_M_chance 68 = .ok (.iload 7, 2) := by decide +kernel
theorem d_M_chance_70 : decode b_M_chance 70 = .ok (.iload 4, 2) := by decide +kernel
theorem d_M_chance_72 : decode b_M_chance 72 = .ok (.iconst (-1), 1) := by decide +kernel
theorem d_M_chance_73 : decode b_M_chance 73 = .ok (.ixor, 1) := by decide +kernel
theorem d_M_chance_74 : decode b_M_chance 74 = .ok (.iand, 1) := by decide +kernel
theorem d_M_chance_75 : decode b_M_chance 75 = .ok (.ifCond .ne 116, 3) := by decide +kernel
theorem d_M_chance_78 : decode b_M_chance 78 = .ok (.aload_n 0, 1) := by decide +kernel
theorem d_M_chance_79 : decode b_M_chance 79 = .ok (.getfield 22, 3) := by decide +kernel
theorem d_M_chance_82 : decode b_M_chance 82 = .ok (.aload_n 0, 1) := by decide +kernel
theorem d_M_chance_83 : decode b_M_chance 83 = .ok (.getfield 25, 3) := by decide +kernel
theorem d_M_chance_86 : decode b_M_chance 86 = .ok (.invokestatic 282, 3) := by decide +kernel
theorem d_M_chance_89 : decode b_M_chance 89 = .ok (.iconst 0, 1) := by decide +kernel
theorem d_M_chance_90 : decode b_M_chance 90 = .ok (.istore 8, 2) := by decide +kernel
theorem d_M_chance_92 : decode b_M_chance 92 = .ok (.iload 8, 2) := by decide +kernel
theorem d_M_chance_94 : decode b_M_chance 94 = .ok (.aload_n 0, 1) := by decide +kernel
theorem d_M_chance_95 : decode b_M_chance 95 = .ok (.getfield 101, 3) := by decide +kernel
theorem d_M_chance_98 : decode b_M_chance 98 = .ok (.if_icmp .ge 43, 3) := by decide +kernel
theorem d_M_chance_101 : decode b_M_chance 101 = .ok (.aload_n 0, 1) := by decide +kernel
theorem d_M_chance_102 : decode b_M_chance 102 = .ok (.getfield 25, 3) := by decide +kernel
theorem d_M_chance_105 : decode b_M_chance 105 = .ok (.bipush 95, 2) := by decide +kernel
theorem d_M_chance_107 : decode b_M_chance 107 = .ok (.iload 8, 2) := by decide +kernel
theorem d_M_chance_109 : decode b_M_chance 109 = .ok (.iadd, 1) := by decide +kernel
theorem d_M_chance_110 : decode b_M_chance 110 = .ok (.iload 7, 2) := by decide +kernel
theorem d_M_chance_112 : decode b_M_chance 112 = .ok (.iload 8, 2) := by decide +kernel
theorem d_M_chance_114 : decode b_M_chance 114 = .ok (.invokestatic 290, 3) := by decide +kernel
theorem d_M_chance_117 : decode b_M_chance 117 = .ok (.ifCond .eq 7, 3) := by decide +kernel
theorem d_M_chance_120 : decode b_M_chance 120 = .ok (.iconst 1, 1) := by decide +kernel
theorem d_M_chance_121 : decode b_M_chance 121 = .ok (.goto 13, 3) := by decide +kernel
theorem d_M_chance_124 : decode b_M_chance 124 = .ok (.aload_n 0, 1) := by decide +kernel
theorem d_M_chance_125 : decode b_M_chance 125 = .ok (.getfield 25, 3) := by decide +kernel
theorem d_M_chance_128 : decode b_M_chance 128 = .ok (.bipush 95, 2) := by decide +kernel
theorem d_M_chance_130 : decode b_M_chance 130 = .ok (.iload 8, 2) := by decide +kernel
theorem d_M_chance_132 : decode b_M_chance 132 = .ok (.iadd, 1) := by decide +kernel
theorem d_M_chance_133 : decode b_M_chance 133 = .ok (.iaload, 1) := by decide +kernel
theorem d_M_chance_134 : decode b_M_chance 134 = .ok (.iastore, 1) := by decide +kernel
theorem d_M_chance_135 : decode b_M_chance 135 = .ok (.iinc 8 1, 3) := by decide +kernel
theorem d_M_chance_138 : decode b_M_chance 138 = .ok (.goto (-46), 3) := by decide +kernel
theorem d_M_chance_141 : decode b_M_chance 141 = .ok (.aload_n 0, 1) := by decide +kernel
theorem d_M_chance_142 : decode b_M_chance 142 = .ok (.iload_n 1, 1) := by decide +kernel
theorem d_M_chance_143 : decode b_M_chance 143 = .ok (.invokevirtual 286, 3) := by decide +kernel
theorem d_M_chance_146 : decode b_M_chance 146 = .ok (.iload 6, 2) := by decide +kernel
theorem d_M_chance_148 : decode b_M_chance 148 = .ok (.aload_n 0, 1) := by decide +kernel
theorem d_M_chance_149 : decode b_M_chance 149 = .ok (.aload_n 0, 1) := by decide +kernel
theorem d_M_chance_150 : decode b_M_chance 150 = .ok (.getfield 25, 3) := by decide +kernel
theorem d_M_chance_153 : decode b_M_chance 153 = .ok (.invokevirtual 240, 3) := by decide +kernel
theorem d_M_chance_156 : decode b_M_chance 156 = .ok (.ifCond .eq 31, 3) := by decide +kernel
theorem d_M_chance_159 : decode b_M_chance 159 = .ok (.iload_n 2, 1) := by decide +kernel
theorem d_M_chance_160 : decode b_M_chance 160 = .ok (.iload 7, 2) := by decide +kernel
theorem d_M_chance_162 : decode b_M_chance 162 = .ok (.invokestatic 271, 3) := by decide +kernel
theorem d_M_chance_165 : decode b_M_chance 165 = .ok (.invokestatic 318, 3) := by decide +kernel
theorem d_M_chance_168 : decode b_M_chance 168 = .ok (.bipush 10, 2) := by decide +kernel
theorem d_M_chance_170 : decode b_M_chance 170 = .ok (.iload_n 2, 1) := by decide +kernel
theorem d_M_chance_171 : decode b_M_chance 171 = .ok (.isub, 1) := by decide +kernel
theorem d_M_chance_172 : decode b_M_chance 172 = .ok (.iload 5, 2) := by decide +kernel
theorem d_M_chance_174 : decode b_M_chance 174 = .ok (.iload 7, 2) := by decide +kernel
theorem d_M_chance_176 : decode b_M_chance 176 = .ok (.invokestatic 271, 3) := by decide +kernel
theorem d_M_chance_179 : decode b_M_chance 179 = .ok (.isub, 1) := by decide +kernel
theorem d_M_chance_180 : decode b_M_chance 180 = .ok (.invokestatic 318, 3) := by decide +kernel
theorem d_M_chance_183 : decode b_M_chance 183 = .ok (.imul, 1) := by decide +kernel
theorem d_M_chance_184 : decode b_M_chance 184 = .ok (.goto 4, 3) := by decide +kernel
theorem d_M_chance_187 : decode b_M_chance 187 = .ok (.iconst 0, 1) := by decide +kernel
theorem d_M_chance_188 : decode b_M_chance 188 = .ok (.iadd, 1) := by decide +kernel
theorem d_M_chance_189 : decode b_M_chance 189 = .ok (.istore 6, 2) := by decide +kernel
theorem d_M_chance_191 : decode b_M_chance 191 = .ok (.iinc 7 1, 3) := by decide +kernel
theorem d_M_chance_194 : decode b_M_chance 194 = .ok (.goto (-137), 3) := by decide +kernel
theorem d_M_chance_197 : decode b_M_chance 197 = .ok (.iload 6, 2) := by decide +kernel
theorem d_M_chance_199 : decode b_M_chance 199 = .ok (.bipush 10, 2) := by decide +kernel
theorem d_M_chance_201 : decode b_M_chance 201 = .ok (.iload 5, 2) := by decide +kernel
theorem d_M_chance_203 : decode b_M_chance 203 = .ok (.invokestatic 318, 3) := by decide +kernel
theorem d_M_chance_206 : decode b_M_chance 206 = .ok (.iload_n 3, 1) := by decide +kernel
theorem d_M_chance_207 : decode b_M_chance 207 = .ok (.invokestatic 314, 3) := by decide +kernel
theorem d_M_chance_210 : decode b_M_chance 210 = .ok (.ireturn, 1) := by decide +kernel
abbrev b_M_seed : ByteArray := prog_10_method_68_code
abbrev y_M_seed : MethodName := ⟨"TimeFloodModel", "seed", "(J)J"⟩
theorem m_M_seed : MWV y_M_seed b_M_seed 5 (Option.some FieldType.long) 1 := ⟨wd_1048, wd_1049, wd_9, wd_1050, by decide, by decide, by decide +kernel⟩
theorem d_M_seed_0 : decode b_M_seed 0 = .ok (.aload_n 0, 1) := by decide +kernel
theorem d_M_seed_1 : decode b_M_seed 1 = .ok (.getfield 322, 3) := by decide +kernel
theorem d_M_seed_4 : decode b_M_seed 4 = .ok (.lstore_n 3, 1) := by decide +kernel
theorem d_M_seed_5 : decode b_M_seed 5 = .ok (.aload_n 0, 1) := by decide +kernel
theorem d_M_seed_6 : decode b_M_seed 6 = .ok (.lload_n 1, 1) := by decide +kernel
theorem d_M_seed_7 : decode b_M_seed 7 = .ok (.putfield 322, 3) := by decide +kernel
theorem d_M_seed_10 : decode b_M_seed 10 = .ok (.lload_n 3, 1) := by decide +kernel
theorem d_M_seed_11 : decode b_M_seed 11 = .ok (.lreturn, 1) := by decide +kernel
abbrev b_M_drawn : ByteArray := prog_10_method_69_code
abbrev y_M_drawn : MethodName := ⟨"TimeFloodModel", "drawn", "(I)I"⟩
theorem m_M_drawn : MWV y_M_drawn b_M_drawn 6 (Option.some FieldType.int) 1 := ⟨wd_1052, wd_1053, wd_9, wd_1054, by decide, by decide, by decide +kernel⟩
theorem d_M_drawn_0 : decode b_M_drawn 0 = .ok (.iload_n 1, 1) := by decide +kernel
theorem d_M_drawn_1 : decode b_M_drawn 1 = .ok (.i2l, 1) := by decide +kernel
theorem d_M_drawn_2 : decode b_M_drawn 2 = .ok (.lconst 1, 1) := by decide +kernel
theorem d_M_drawn_3 : decode b_M_drawn 3 = .ok (.ldc2_w 303, 3) := by decide +kernel
theorem d_M_drawn_6 : decode b_M_drawn 6 = .ok (.invokestatic 97, 3) := by decide +kernel
theorem d_M_drawn_9 : decode b_M_drawn 9 = .ok (.ifCond .ne 6, 3) := by decide +kernel
theorem d_M_drawn_12 : decode b_M_drawn 12 = .ok (.bipush (-2), 2) := by decide +kernel
theorem d_M_drawn_14 : decode b_M_drawn 14 = .ok (.ireturn, 1) := by decide +kernel
theorem d_M_drawn_15 : decode b_M_drawn 15 = .ok (.aload_n 0, 1) := by decide +kernel
theorem d_M_drawn_16 : decode b_M_drawn 16 = .ok (.getfield 22, 3) := by decide +kernel
theorem d_M_drawn_19 : decode b_M_drawn 19 = .ok (.aload_n 0, 1) := by decide +kernel
theorem d_M_drawn_20 : decode b_M_drawn 20 = .ok (.getfield 25, 3) := by decide +kernel
theorem d_M_drawn_23 : decode b_M_drawn 23 = .ok (.invokestatic 282, 3) := by decide +kernel
theorem d_M_drawn_26 : decode b_M_drawn 26 = .ok (.iconst 0, 1) := by decide +kernel
theorem d_M_drawn_27 : decode b_M_drawn 27 = .ok (.istore_n 2, 1) := by decide +kernel
theorem d_M_drawn_28 : decode b_M_drawn 28 = .ok (.iconst 0, 1) := by decide +kernel
theorem d_M_drawn_29 : decode b_M_drawn 29 = .ok (.istore_n 3, 1) := by decide +kernel
theorem d_M_drawn_30 : decode b_M_drawn 30 = .ok (.iload_n 3, 1) := by decide +kernel
theorem d_M_drawn_31 : decode b_M_drawn 31 = .ok (.iload_n 1, 1) := by decide +kernel
theorem d_M_drawn_32 : decode b_M_drawn 32 = .ok (.if_icmp .ge 105, 3) := by decide +kernel
theorem d_M_drawn_35 : decode b_M_drawn 35 = .ok (.aload_n 0, 1) := by decide +kernel
theorem d_M_drawn_36 : decode b_M_drawn 36 = .ok (.aload_n 0, 1) := by decide +kernel
theorem d_M_drawn_37 : decode b_M_drawn 37 = .ok (.getfield 322, 3) := by decide +kernel
theorem d_M_drawn_40 : decode b_M_drawn 40 = .ok (.ldc2_w 326, 3) := by decide +kernel
theorem d_M_drawn_43 : decode b_M_drawn 43 = .ok (.lmul, 1) := by decide +kernel
theorem d_M_drawn_44 : decode b_M_drawn 44 = .ok (.ldc2_w 328, 3) := by decide +kernel
theorem d_M_drawn_47 : decode b_M_drawn 47 = .ok (.ladd, 1) := by decide +kernel
theorem d_M_drawn_48 : decode b_M_drawn 48 = .ok (.putfield 322, 3) := by decide +kernel
theorem d_M_drawn_51 : decode b_M_drawn 51 = .ok (.aload_n 0, 1) := by decide +kernel
theorem d_M_drawn_52 : decode b_M_drawn 52 = .ok (.getfield 322, 3) := by decide +kernel
theorem d_M_drawn_55 : decode b_M_drawn 55 = .ok (.bipush 33, 2) := by decide +kernel
theorem d_M_drawn_57 : decode b_M_drawn 57 = .ok (.lushr, 1) := by decide +kernel
theorem d_M_drawn_58 : decode b_M_drawn 58 = .ok (.l2i, 1) := by decide +kernel
theorem d_M_drawn_59 : decode b_M_drawn 59 = .ok (.istore 4, 2) := by decide +kernel
theorem d_M_drawn_61 : decode b_M_drawn 61 = .ok (.aload_n 0, 1) := by decide +kernel
theorem d_M_drawn_62 : decode b_M_drawn 62 = .ok (.getfield 101, 3) := by decide +kernel
theorem d_M_drawn_65 : decode b_M_drawn 65 = .ok (.ifCond .le 44, 3) := by decide +kernel
theorem d_M_drawn_68 : decode b_M_drawn 68 = .ok (.iload 4, 2) := by decide +kernel
theorem d_M_drawn_70 : decode b_M_drawn 70 = .ok (.bipush 16, 2) := by decide +kernel
theorem d_M_drawn_72 : decode b_M_drawn 72 = .ok (.idiv, 1) := by decide +kernel
theorem d_M_drawn_73 : decode b_M_drawn 73 = .ok (.iconst 2, 1) := by decide +kernel
theorem d_M_drawn_74 : decode b_M_drawn 74 = .ok (.irem, 1) := by decide +kernel
theorem d_M_drawn_75 : decode b_M_drawn 75 = .ok (.ifCond .ne 34, 3) := by decide +kernel
theorem d_M_drawn_78 : decode b_M_drawn 78 = .ok (.iload 4, 2) := by decide +kernel
theorem d_M_drawn_80 : decode b_M_drawn 80 = .ok (.aload_n 0, 1) := by decide +kernel
theorem d_M_drawn_81 : decode b_M_drawn 81 = .ok (.getfield 101, 3) := by decide +kernel
theorem d_M_drawn_84 : decode b_M_drawn 84 = .ok (.irem, 1) := by decide +kernel
theorem d_M_drawn_85 : decode b_M_drawn 85 = .ok (.istore 5, 2) := by decide +kernel
theorem d_M_drawn_87 : decode b_M_drawn 87 = .ok (.aload_n 0, 1) := by decide +kernel
theorem d_M_drawn_88 : decode b_M_drawn 88 = .ok (.getfield 25, 3) := by decide +kernel
theorem d_M_drawn_91 : decode b_M_drawn 91 = .ok (.bipush 95, 2) := by decide +kernel
theorem d_M_drawn_93 : decode b_M_drawn 93 = .ok (.iload 5, 2) := by decide +kernel
theorem d_M_drawn_95 : decode b_M_drawn 95 = .ok (.iadd, 1) := by decide +kernel
theorem d_M_drawn_96 : decode b_M_drawn 96 = .ok (.iconst 1, 1) := by decide +kernel
theorem d_M_drawn_97 : decode b_M_drawn 97 = .ok (.aload_n 0, 1) := by decide +kernel
theorem d_M_drawn_98 : decode b_M_drawn 98 = .ok (.getfield 25, 3) := by decide +kernel
theorem d_M_drawn_101 : decode b_M_drawn 101 = .ok (.bipush 95, 2) := by decide +kernel
theorem d_M_drawn_103 : decode b_M_drawn 103 = .ok (.iload 5, 2) := by decide +kernel
theorem d_M_drawn_105 : decode b_M_drawn 105 = .ok (.iadd, 1) := by decide +kernel
theorem d_M_drawn_106 : decode b_M_drawn 106 = .ok (.iaload, 1) := by decide +kernel
theorem d_M_drawn_107 : decode b_M_drawn 107 = .ok (.isub, 1) := by decide +kernel
theorem d_M_drawn_108 : decode b_M_drawn 108 = .ok (.iastore, 1) := by decide +kernel
theorem d_M_drawn_109 : decode b_M_drawn 109 = .ok (.aload_n 0, 1) := by decide +kernel
theorem d_M_drawn_110 : decode b_M_drawn 110 = .ok (.aload_n 0, 1) := by decide +kernel
theorem d_M_drawn_111 : decode b_M_drawn 111 = .ok (.getfield 25, 3) := by decide +kernel
theorem d_M_drawn_114 : decode b_M_drawn 114 = .ok (.invokevirtual 215, 3) := by decide +kernel
theorem d_M_drawn_117 : decode b_M_drawn 117 = .ok (.iload_n 2, 1) := by decide +kernel
theorem d_M_drawn_118 : decode b_M_drawn 118 = .ok (.aload_n 0, 1) := by decide +kernel
theorem d_M_drawn_119 : decode b_M_drawn 119 = .ok (.aload_n 0, 1) := by decide +kernel
theorem d_M_drawn_120 : decode b_M_drawn 120 = .ok (.getfield 25, 3) := by decide +kernel
theorem d_M_drawn_123 : decode b_M_drawn 123 = .ok (.invokevirtual 233, 3) := by decide +kernel
theorem d_M_drawn_126 : decode b_M_drawn 126 = .ok (.invokestatic 271, 3) := by decide +kernel
theorem d_M_drawn_129 : decode b_M_drawn 129 = .ok (.iadd, 1) := by decide +kernel
theorem d_M_drawn_130 : decode b_M_drawn 130 = .ok (.istore_n 2, 1) := by decide +kernel
theorem d_M_drawn_131 : decode b_M_drawn 131 = .ok (.iinc 3 1, 3) := by decide +kernel
theorem d_M_drawn_134 : decode b_M_drawn 134 = .ok (.goto (-104), 3) := by decide +kernel
theorem d_M_drawn_137 : decode b_M_drawn 137 = .ok (.iload_n 2, 1) := by decide +kernel
theorem d_M_drawn_138 : decode b_M_drawn 138 = .ok (.ireturn, 1) := by decide +kernel
abbrev b_M_keep : ByteArray := prog_10_method_70_code
abbrev y_M_keep : MethodName := ⟨"TimeFloodModel", "keep", "(I)I"⟩
theorem m_M_keep : MWV y_M_keep b_M_keep 3 (Option.some FieldType.int) 1 := ⟨wd_1058, wd_1059, wd_9, wd_1060, by decide, by decide, by decide +kernel⟩
theorem d_M_keep_0 : decode b_M_keep 0 = .ok (.iload_n 1, 1) := by decide +kernel
theorem d_M_keep_1 : decode b_M_keep 1 = .ok (.i2l, 1) := by decide +kernel
theorem d_M_keep_2 : decode b_M_keep 2 = .ok (.lconst 0, 1) := by decide +kernel
theorem d_M_keep_3 : decode b_M_keep 3 = .ok (.lconst 1, 1) := by decide +kernel
theorem d_M_keep_4 : decode b_M_keep 4 = .ok (.invokestatic 97, 3) := by decide +kernel
theorem d_M_keep_7 : decode b_M_keep 7 = .ok (.ifCond .ne 5, 3) := by decide +kernel
theorem d_M_keep_10 : decode b_M_keep 10 = .ok (.iconst (-1), 1) := by decide +kernel
theorem d_M_keep_11 : decode b_M_keep 11 = .ok (.ireturn, 1) := by decide +kernel
theorem d_M_keep_12 : decode b_M_keep 12 = .ok (.aload_n 0, 1) := by decide +kernel
theorem d_M_keep_13 : decode b_M_keep 13 = .ok (.getfield 34, 3) := by decide +kernel
theorem d_M_keep_16 : decode b_M_keep 16 = .ok (.iload_n 1, 1) := by decide +kernel
theorem d_M_keep_17 : decode b_M_keep 17 = .ok (.iconst 1, 1) := by decide +kernel
theorem d_M_keep_18 : decode b_M_keep 18 = .ok (.bastore, 1) := by decide +kernel
theorem d_M_keep_19 : decode b_M_keep 19 = .ok (.iconst 0, 1) := by decide +kernel
theorem d_M_keep_20 : decode b_M_keep 20 = .ok (.istore_n 2, 1) := by decide +kernel
theorem d_M_keep_21 : decode b_M_keep 21 = .ok (.iload_n 2, 1) := by decide +kernel
theorem d_M_keep_22 : decode b_M_keep 22 = .ok (.bipush 103, 2) := by decide +kernel
theorem d_M_keep_24 : decode b_M_keep 24 = .ok (.if_icmp .ge 26, 3) := by decide +kernel
theorem d_M_keep_27 : decode b_M_keep 27 = .ok (.aload_n 0, 1) := by decide +kernel
theorem d_M_keep_28 : decode b_M_keep 28 = .ok (.getfield 31, 3) := by decide +kernel
theorem d_M_keep_31 : decode b_M_keep 31 = .ok (.bipush 103, 2) := by decide +kernel
theorem d_M_keep_33 : decode b_M_keep 33 = .ok (.iload_n 1, 1) := by decide +kernel
theorem d_M_keep_34 : decode b_M_keep 34 = .ok (.imul, 1) := by decide +kernel
theorem d_M_keep_35 : decode b_M_keep 35 = .ok (.iload_n 2, 1) := by decide +kernel
theorem d_M_keep_36 : decode b_M_keep 36 = .ok (.iadd, 1) := by decide +kernel
theorem d_M_keep_37 : decode b_M_keep 37 = .ok (.aload_n 0, 1) := by decide +kernel
theorem d_M_keep_38 : decode b_M_keep 38 = .ok (.getfield 22, 3) := by decide +kernel
theorem d_M_keep_41 : decode b_M_keep 41 = .ok (.iload_n 2, 1) := by decide +kernel
theorem d_M_keep_42 : decode b_M_keep 42 = .ok (.iaload, 1) := by decide +kernel
theorem d_M_keep_43 : decode b_M_keep 43 = .ok (.iastore, 1) := by decide +kernel
theorem d_M_keep_44 : decode b_M_keep 44 = .ok (.iinc 2 1, 3) := by decide +kernel
theorem d_M_keep_47 : decode b_M_keep 47 = .ok (.goto (-26), 3) := by decide +kernel
theorem d_M_keep_50 : decode b_M_keep 50 = .ok (.aload_n 0, 1) := by decide +kernel
theorem d_M_keep_51 : decode b_M_keep 51 = .ok (.getfield 22, 3) := by decide +kernel
theorem d_M_keep_54 : decode b_M_keep 54 = .ok (.bipush 102, 2) := by decide +kernel
theorem d_M_keep_56 : decode b_M_keep 56 = .ok (.iaload, 1) := by decide +kernel
theorem d_M_keep_57 : decode b_M_keep 57 = .ok (.ireturn, 1) := by decide +kernel
abbrev b_M_again : ByteArray := prog_10_method_71_code
abbrev y_M_again : MethodName := ⟨"TimeFloodModel", "again", "(I)I"⟩
theorem m_M_again : MWV y_M_again b_M_again 3 (Option.some FieldType.int) 1 := ⟨wd_1062, wd_1063, wd_9, wd_1064, by decide, by decide, by decide +kernel⟩
theorem d_M_again_0 : decode b_M_again 0 = .ok (.iload_n 1, 1) := by decide +kernel
theorem d_M_again_1 : decode b_M_again 1 = .ok (.i2l, 1) := by decide +kernel
theorem d_M_again_2 : decode b_M_again 2 = .ok (.lconst 0, 1) := by decide +kernel
theorem d_M_again_3 : decode b_M_again 3 = .ok (.lconst 1, 1) := by decide +kernel
theorem d_M_again_4 : decode b_M_again 4 = .ok (.invokestatic 97, 3) := by decide +kernel
theorem d_M_again_7 : decode b_M_again 7 = .ok (.ifCond .ne 5, 3) := by decide +kernel
theorem d_M_again_10 : decode b_M_again 10 = .ok (.iconst (-1), 1) := by decide +kernel
theorem d_M_again_11 : decode b_M_again 11 = .ok (.ireturn, 1) := by decide +kernel
theorem d_M_again_12 : decode b_M_again 12 = .ok (.aload_n 0, 1) := by decide +kernel
theorem d_M_again_13 : decode b_M_again 13 = .ok (.getfield 34, 3) := by decide +kernel
theorem d_M_again_16 : decode b_M_again 16 = .ok (.iload_n 1, 1) := by decide +kernel
theorem d_M_again_17 : decode b_M_again 17 = .ok (.baload, 1) := by decide +kernel
theorem d_M_again_18 : decode b_M_again 18 = .ok (.ifCond .ne 6, 3) := by decide +kernel
theorem d_M_again_21 : decode b_M_again 21 = .ok (.bipush (-3), 2) := by decide +kernel
theorem d_M_again_23 : decode b_M_again 23 = .ok (.ireturn, 1) := by decide +kernel
theorem d_M_again_24 : decode b_M_again 24 = .ok (.iconst 0, 1) := by decide +kernel
theorem d_M_again_25 : decode b_M_again 25 = .ok (.istore_n 2, 1) := by decide +kernel
theorem d_M_again_26 : decode b_M_again 26 = .ok (.iload_n 2, 1) := by decide +kernel
theorem d_M_again_27 : decode b_M_again 27 = .ok (.bipush 103, 2) := by decide +kernel
theorem d_M_again_29 : decode b_M_again 29 = .ok (.if_icmp .ge 26, 3) := by decide +kernel
theorem d_M_again_32 : decode b_M_again 32 = .ok (.aload_n 0, 1) := by decide +kernel
theorem d_M_again_33 : decode b_M_again 33 = .ok (.getfield 22, 3) := by decide +kernel
theorem d_M_again_36 : decode b_M_again 36 = .ok (.iload_n 2, 1) := by decide +kernel
theorem d_M_again_37 : decode b_M_again 37 = .ok (.aload_n 0, 1) := by decide +kernel
theorem d_M_again_38 : decode b_M_again 38 = .ok (.getfield 31, 3) := by decide +kernel
theorem d_M_again_41 : decode b_M_again 41 = .ok (.bipush 103, 2) := by decide +kernel
theorem d_M_again_43 : decode b_M_again 43 = .ok (.iload_n 1, 1) := by decide +kernel
theorem d_M_again_44 : decode b_M_again 44 = .ok (.imul, 1) := by decide +kernel
theorem d_M_again_45 : decode b_M_again 45 = .ok (.iload_n 2, 1) := by decide +kernel
theorem d_M_again_46 : decode b_M_again 46 = .ok (.iadd, 1) := by decide +kernel
theorem d_M_again_47 : decode b_M_again 47 = .ok (.iaload, 1) := by decide +kernel
theorem d_M_again_48 : decode b_M_again 48 = .ok (.iastore, 1) := by decide +kernel
theorem d_M_again_49 : decode b_M_again 49 = .ok (.iinc 2 1, 3) := by decide +kernel
theorem d_M_again_52 : decode b_M_again 52 = .ok (.goto (-26), 3) := by decide +kernel
theorem d_M_again_55 : decode b_M_again 55 = .ok (.aload_n 0, 1) := by decide +kernel
theorem d_M_again_56 : decode b_M_again 56 = .ok (.iconst 0, 1) := by decide +kernel
theorem d_M_again_57 : decode b_M_again 57 = .ok (.putfield 175, 3) := by decide +kernel
theorem d_M_again_60 : decode b_M_again 60 = .ok (.aload_n 0, 1) := by decide +kernel
theorem d_M_again_61 : decode b_M_again 61 = .ok (.getfield 22, 3) := by decide +kernel
theorem d_M_again_64 : decode b_M_again 64 = .ok (.bipush 102, 2) := by decide +kernel
theorem d_M_again_66 : decode b_M_again 66 = .ok (.iaload, 1) := by decide +kernel
theorem d_M_again_67 : decode b_M_again 67 = .ok (.ireturn, 1) := by decide +kernel

