theorem dX8_init_0 : decode cX8_init 0 = .ok (.aload_n 0, 1) := by decide +kernel
theorem dX8_init_1 : decode cX8_init 1 = .ok (.invokespecial 3, 3) := by decide +kernel
theorem dX8_init_4 : decode cX8_init 4 = .ok (.aload_n 0, 1) := by decide +kernel
theorem dX8_init_5 : decode cX8_init 5 = .ok (.new 9, 3) := by decide +kernel
theorem dX8_init_8 : decode cX8_init 8 = .ok (.dup, 1) := by decide +kernel
theorem dX8_init_9 : decode cX8_init 9 = .ok (.iconst 0, 1) := by decide +kernel
theorem dX8_init_10 : decode cX8_init 10 = .ok (.iconst 4, 1) := by decide +kernel
theorem dX8_init_11 : decode cX8_init 11 = .ok (.invokespecial 11, 3) := by decide +kernel
theorem dX8_init_14 : decode cX8_init 14 = .ok (.putfield 14, 3) := by decide +kernel
theorem dX8_init_17 : decode cX8_init 17 = .ok (.aload_n 0, 1) := by decide +kernel
theorem dX8_init_18 : decode cX8_init 18 = .ok (.new 9, 3) := by decide +kernel
theorem dX8_init_21 : decode cX8_init 21 = .ok (.dup, 1) := by decide +kernel
theorem dX8_init_22 : decode cX8_init 22 = .ok (.iconst 1, 1) := by decide +kernel
theorem dX8_init_23 : decode cX8_init 23 = .ok (.bipush 8, 2) := by decide +kernel
theorem dX8_init_25 : decode cX8_init 25 = .ok (.invokespecial 11, 3) := by decide +kernel
theorem dX8_init_28 : decode cX8_init 28 = .ok (.putfield 18, 3) := by decide +kernel
theorem dX8_init_31 : decode cX8_init 31 = .ok (.aload_n 0, 1) := by decide +kernel
theorem dX8_init_32 : decode cX8_init 32 = .ok (.new 9, 3) := by decide +kernel
theorem dX8_init_35 : decode cX8_init 35 = .ok (.dup, 1) := by decide +kernel
theorem dX8_init_36 : decode cX8_init 36 = .ok (.iconst 2, 1) := by decide +kernel
theorem dX8_init_37 : decode cX8_init 37 = .ok (.bipush 8, 2) := by decide +kernel
theorem dX8_init_39 : decode cX8_init 39 = .ok (.invokespecial 11, 3) := by decide +kernel
theorem dX8_init_42 : decode cX8_init 42 = .ok (.putfield 23, 3) := by decide +kernel
theorem dX8_init_45 : decode cX8_init 45 = .ok (.aload_n 0, 1) := by decide +kernel
theorem dX8_init_46 : decode cX8_init 46 = .ok (.new 26, 3) := by decide +kernel
theorem dX8_init_49 : decode cX8_init 49 = .ok (.dup, 1) := by decide +kernel
theorem dX8_init_50 : decode cX8_init 50 = .ok (.bipush 10, 2) := by decide +kernel
theorem dX8_init_52 : decode cX8_init 52 = .ok (.iconst 4, 1) := by decide +kernel
theorem dX8_init_53 : decode cX8_init 53 = .ok (.invokespecial 28, 3) := by decide +kernel
theorem dX8_init_56 : decode cX8_init 56 = .ok (.putfield 29, 3) := by decide +kernel
theorem dX8_init_59 : decode cX8_init 59 = .ok (.aload_n 0, 1) := by decide +kernel
theorem dX8_init_60 : decode cX8_init 60 = .ok (.new 26, 3) := by decide +kernel
theorem dX8_init_63 : decode cX8_init 63 = .ok (.dup, 1) := by decide +kernel
theorem dX8_init_64 : decode cX8_init 64 = .ok (.bipush 8, 2) := by decide +kernel
theorem dX8_init_66 : decode cX8_init 66 = .ok (.bipush 6, 2) := by decide +kernel
theorem dX8_init_68 : decode cX8_init 68 = .ok (.invokespecial 28, 3) := by decide +kernel
theorem dX8_init_71 : decode cX8_init 71 = .ok (.putfield 33, 3) := by decide +kernel
theorem dX8_init_74 : decode cX8_init 74 = .ok (.aload_n 0, 1) := by decide +kernel
theorem dX8_init_75 : decode cX8_init 75 = .ok (.new 26, 3) := by decide +kernel
theorem dX8_init_78 : decode cX8_init 78 = .ok (.dup, 1) := by decide +kernel
theorem dX8_init_79 : decode cX8_init 79 = .ok (.bipush 6, 2) := by decide +kernel
theorem dX8_init_81 : decode cX8_init 81 = .ok (.iconst 3, 1) := by decide +kernel
theorem dX8_init_82 : decode cX8_init 82 = .ok (.invokespecial 28, 3) := by decide +kernel
theorem dX8_init_85 : decode cX8_init 85 = .ok (.putfield 36, 3) := by decide +kernel
theorem dX8_init_88 : decode cX8_init 88 = .ok (.aload_n 0, 1) := by decide +kernel
theorem dX8_init_89 : decode cX8_init 89 = .ok (.bipush 8, 2) := by decide +kernel
theorem dX8_init_91 : decode cX8_init 91 = .ok (.newarray .int, 2) := by decide +kernel
theorem dX8_init_93 : decode cX8_init 93 = .ok (.putfield 39, 3) := by decide +kernel
theorem dX8_init_96 : decode cX8_init 96 = .ok (.aload_n 0, 1) := by decide +kernel
theorem dX8_init_97 : decode cX8_init 97 = .ok (.bipush 8, 2) := by decide +kernel
theorem dX8_init_99 : decode cX8_init 99 = .ok (.newarray .int, 2) := by decide +kernel
theorem dX8_init_101 : decode cX8_init 101 = .ok (.putfield 43, 3) := by decide +kernel
theorem dX8_init_104 : decode cX8_init 104 = .ok (.aload_n 0, 1) := by decide +kernel
theorem dX8_init_105 : decode cX8_init 105 = .ok (.new 46, 3) := by decide +kernel
theorem dX8_init_108 : decode cX8_init 108 = .ok (.dup, 1) := by decide +kernel
theorem dX8_init_109 : decode cX8_init 109 = .ok (.invokespecial 48, 3) := by decide +kernel
theorem dX8_init_112 : decode cX8_init 112 = .ok (.putfield 49, 3) := by decide +kernel
theorem dX8_init_115 : decode cX8_init 115 = .ok (.aload_n 0, 1) := by decide +kernel
theorem dX8_init_116 : decode cX8_init 116 = .ok (.new 53, 3) := by decide +kernel
theorem dX8_init_119 : decode cX8_init 119 = .ok (.dup, 1) := by decide +kernel
theorem dX8_init_120 : decode cX8_init 120 = .ok (.aload_n 0, 1) := by decide +kernel
theorem dX8_init_121 : decode cX8_init 121 = .ok (.getfield 49, 3) := by decide +kernel
theorem dX8_init_124 : decode cX8_init 124 = .ok (.iconst 0, 1) := by decide +kernel
theorem dX8_init_125 : decode cX8_init 125 = .ok (.invokespecial 55, 3) := by decide +kernel
theorem dX8_init_128 : decode cX8_init 128 = .ok (.putfield 58, 3) := by decide +kernel
theorem dX8_init_131 : decode cX8_init 131 = .ok (.aload_n 0, 1) := by decide +kernel
theorem dX8_init_132 : decode cX8_init 132 = .ok (.new 53, 3) := by decide +kernel
theorem dX8_init_135 : decode cX8_init 135 = .ok (.dup, 1) := by decide +kernel
theorem dX8_init_136 : decode cX8_init 136 = .ok (.aload_n 0, 1) := by decide +kernel
theorem dX8_init_137 : decode cX8_init 137 = .ok (.getfield 49, 3) := by decide +kernel
theorem dX8_init_140 : decode cX8_init 140 = .ok (.iconst 1, 1) := by decide +kernel
theorem dX8_init_141 : decode cX8_init 141 = .ok (.invokespecial 55, 3) := by decide +kernel
theorem dX8_init_144 : decode cX8_init 144 = .ok (.putfield 62, 3) := by decide +kernel
theorem dX8_init_147 : decode cX8_init 147 = .ok (.aload_n 0, 1) := by decide +kernel
theorem dX8_init_148 : decode cX8_init 148 = .ok (.new 53, 3) := by decide +kernel
theorem dX8_init_151 : decode cX8_init 151 = .ok (.dup, 1) := by decide +kernel
theorem dX8_init_152 : decode cX8_init 152 = .ok (.aload_n 0, 1) := by decide +kernel
theorem dX8_init_153 : decode cX8_init 153 = .ok (.getfield 49, 3) := by decide +kernel
theorem dX8_init_156 : decode cX8_init 156 = .ok (.iconst 2, 1) := by decide +kernel
theorem dX8_init_157 : decode cX8_init 157 = .ok (.invokespecial 55, 3) := by decide +kernel
theorem dX8_init_160 : decode cX8_init 160 = .ok (.putfield 65, 3) := by decide +kernel
theorem dX8_init_163 : decode cX8_init 163 = .ok (.aload_n 0, 1) := by decide +kernel
theorem dX8_init_164 : decode cX8_init 164 = .ok (.new 68, 3) := by decide +kernel
theorem dX8_init_167 : decode cX8_init 167 = .ok (.dup, 1) := by decide +kernel
theorem dX8_init_168 : decode cX8_init 168 = .ok (.aload_n 0, 1) := by decide +kernel
theorem dX8_init_169 : decode cX8_init 169 = .ok (.getfield 49, 3) := by decide +kernel
theorem dX8_init_172 : decode cX8_init 172 = .ok (.invokespecial 70, 3) := by decide +kernel
theorem dX8_init_175 : decode cX8_init 175 = .ok (.putfield 73, 3) := by decide +kernel
theorem dX8_init_178 : decode cX8_init 178 = .ok (.aload_n 0, 1) := by decide +kernel
theorem dX8_init_179 : decode cX8_init 179 = .ok (.new 21, 3) := by decide +kernel
theorem dX8_init_182 : decode cX8_init 182 = .ok (.dup, 1) := by decide +kernel
theorem dX8_init_183 : decode cX8_init 183 = .ok (.invokespecial 77, 3) := by decide +kernel
theorem dX8_init_186 : decode cX8_init 186 = .ok (.putfield 78, 3) := by decide +kernel
theorem dX8_init_189 : decode cX8_init 189 = .ok (.aload_n 0, 1) := by decide +kernel
theorem dX8_init_190 : decode cX8_init 190 = .ok (.new 82, 3) := by decide +kernel
theorem dX8_init_193 : decode cX8_init 193 = .ok (.dup, 1) := by decide +kernel
theorem dX8_init_194 : decode cX8_init 194 = .ok (.invokespecial 84, 3) := by decide +kernel
theorem dX8_init_197 : decode cX8_init 197 = .ok (.putfield 85, 3) := by decide +kernel
theorem dX8_init_200 : decode cX8_init 200 = .ok (.aload_n 0, 1) := by decide +kernel
theorem dX8_init_201 : decode cX8_init 201 = .ok (.new 89, 3) := by decide +kernel
theorem dX8_init_204 : decode cX8_init 204 = .ok (.dup, 1) := by decide +kernel
theorem dX8_init_205 : decode cX8_init 205 = .ok (.invokespecial 91, 3) := by decide +kernel
theorem dX8_init_208 : decode cX8_init 208 = .ok (.putfield 92, 3) := by decide +kernel
theorem dX8_init_211 : decode cX8_init 211 = .ok (.aload_n 0, 1) := by decide +kernel
theorem dX8_init_212 : decode cX8_init 212 = .ok (.iconst 0, 1) := by decide +kernel
theorem dX8_init_213 : decode cX8_init 213 = .ok (.putfield 96, 3) := by decide +kernel
theorem dX8_init_216 : decode cX8_init 216 = .ok (.aload_n 0, 1) := by decide +kernel
theorem dX8_init_217 : decode cX8_init 217 = .ok (.iconst 0, 1) := by decide +kernel
theorem dX8_init_218 : decode cX8_init 218 = .ok (.putfield 100, 3) := by decide +kernel
theorem dX8_init_221 : decode cX8_init 221 = .ok (.aload_n 0, 1) := by decide +kernel
theorem dX8_init_222 : decode cX8_init 222 = .ok (.iconst 0, 1) := by decide +kernel
theorem dX8_init_223 : decode cX8_init 223 = .ok (.putfield 103, 3) := by decide +kernel
theorem dX8_init_226 : decode cX8_init 226 = .ok (.aload_n 0, 1) := by decide +kernel
theorem dX8_init_227 : decode cX8_init 227 = .ok (.iconst 1, 1) := by decide +kernel
theorem dX8_init_228 : decode cX8_init 228 = .ok (.putfield 106, 3) := by decide +kernel
theorem dX8_init_231 : decode cX8_init 231 = .ok (.aload_n 0, 1) := by decide +kernel
theorem dX8_init_232 : decode cX8_init 232 = .ok (.getfield 39, 3) := by decide +kernel
theorem dX8_init_235 : decode cX8_init 235 = .ok (.bipush 100, 2) := by decide +kernel
theorem dX8_init_237 : decode cX8_init 237 = .ok (.invokestatic 110, 3) := by decide +kernel
theorem dX8_init_240 : decode cX8_init 240 = .ok (.return_, 1) := by decide +kernel
theorem dX8_type_0 : decode cX8_type 0 = .ok (.iload_n 1, 1) := by decide +kernel
theorem dX8_type_1 : decode cX8_type 1 = .ok (.invokestatic 116, 3) := by decide +kernel
theorem dX8_type_4 : decode cX8_type 4 = .ok (.ifCond .eq 14, 3) := by decide +kernel
theorem dX8_type_7 : decode cX8_type 7 = .ok (.iload_n 2, 1) := by decide +kernel
theorem dX8_type_8 : decode cX8_type 8 = .ok (.iconst 0, 1) := by decide +kernel
theorem dX8_type_9 : decode cX8_type 9 = .ok (.sipush 255, 3) := by decide +kernel
theorem dX8_type_12 : decode cX8_type 12 = .ok (.invokestatic 120, 3) := by decide +kernel
theorem dX8_type_15 : decode cX8_type 15 = .ok (.ifCond .ne 6, 3) := by decide +kernel
theorem dX8_type_18 : decode cX8_type 18 = .ok (.bipush (-2), 2) := by decide +kernel
theorem dX8_type_20 : decode cX8_type 20 = .ok (.ireturn, 1) := by decide +kernel
theorem dX8_type_21 : decode cX8_type 21 = .ok (.aload_n 0, 1) := by decide +kernel
theorem dX8_type_22 : decode cX8_type 22 = .ok (.iload_n 1, 1) := by decide +kernel
theorem dX8_type_23 : decode cX8_type 23 = .ok (.invokevirtual 124, 3) := by decide +kernel
theorem dX8_type_26 : decode cX8_type 26 = .ok (.astore_n 3, 1) := by decide +kernel
theorem dX8_type_27 : decode cX8_type 27 = .ok (.aload_n 3, 1) := by decide +kernel
theorem dX8_type_28 : decode cX8_type 28 = .ok (.invokevirtual 128, 3) := by decide +kernel
theorem dX8_type_31 : decode cX8_type 31 = .ok (.ifCond .eq 6, 3) := by decide +kernel
theorem dX8_type_34 : decode cX8_type 34 = .ok (.bipush (-4), 2) := by decide +kernel
theorem dX8_type_36 : decode cX8_type 36 = .ok (.ireturn, 1) := by decide +kernel
theorem dX8_type_37 : decode cX8_type 37 = .ok (.aload_n 3, 1) := by decide +kernel
theorem dX8_type_38 : decode cX8_type 38 = .ok (.iload_n 2, 1) := by decide +kernel
theorem dX8_type_39 : decode cX8_type 39 = .ok (.invokevirtual 132, 3) := by decide +kernel
theorem dX8_type_42 : decode cX8_type 42 = .ok (.aload_n 0, 1) := by decide +kernel
theorem dX8_type_43 : decode cX8_type 43 = .ok (.iconst 1, 1) := by decide +kernel
theorem dX8_type_44 : decode cX8_type 44 = .ok (.putfield 106, 3) := by decide +kernel
theorem dX8_type_47 : decode cX8_type 47 = .ok (.aload_n 3, 1) := by decide +kernel
theorem dX8_type_48 : decode cX8_type 48 = .ok (.getfield 136, 3) := by decide +kernel
theorem dX8_type_51 : decode cX8_type 51 = .ok (.ireturn, 1) := by decide +kernel
theorem dX8_wipe_0 : decode cX8_wipe 0 = .ok (.iload_n 1, 1) := by decide +kernel
theorem dX8_wipe_1 : decode cX8_wipe 1 = .ok (.invokestatic 116, 3) := by decide +kernel
theorem dX8_wipe_4 : decode cX8_wipe 4 = .ok (.ifCond .ne 6, 3) := by decide +kernel
theorem dX8_wipe_7 : decode cX8_wipe 7 = .ok (.bipush (-2), 2) := by decide +kernel
theorem dX8_wipe_9 : decode cX8_wipe 9 = .ok (.ireturn, 1) := by decide +kernel
theorem dX8_wipe_10 : decode cX8_wipe 10 = .ok (.aload_n 0, 1) := by decide +kernel
theorem dX8_wipe_11 : decode cX8_wipe 11 = .ok (.iload_n 1, 1) := by decide +kernel
theorem dX8_wipe_12 : decode cX8_wipe 12 = .ok (.invokevirtual 124, 3) := by decide +kernel
theorem dX8_wipe_15 : decode cX8_wipe 15 = .ok (.astore_n 2, 1) := by decide +kernel
theorem dX8_wipe_16 : decode cX8_wipe 16 = .ok (.aload_n 2, 1) := by decide +kernel
theorem dX8_wipe_17 : decode cX8_wipe 17 = .ok (.getfield 136, 3) := by decide +kernel
theorem dX8_wipe_20 : decode cX8_wipe 20 = .ok (.istore_n 3, 1) := by decide +kernel
theorem dX8_wipe_21 : decode cX8_wipe 21 = .ok (.aload_n 2, 1) := by decide +kernel
theorem dX8_wipe_22 : decode cX8_wipe 22 = .ok (.iconst 0, 1) := by decide +kernel
theorem dX8_wipe_23 : decode cX8_wipe 23 = .ok (.putfield 136, 3) := by decide +kernel
theorem dX8_wipe_26 : decode cX8_wipe 26 = .ok (.aload_n 0, 1) := by decide +kernel
theorem dX8_wipe_27 : decode cX8_wipe 27 = .ok (.iconst 1, 1) := by decide +kernel
theorem dX8_wipe_28 : decode cX8_wipe 28 = .ok (.putfield 106, 3) := by decide +kernel
theorem dX8_wipe_31 : decode cX8_wipe 31 = .ok (.iload_n 3, 1) := by decide +kernel
theorem dX8_wipe_32 : decode cX8_wipe 32 = .ok (.ireturn, 1) := by decide +kernel
theorem dX8_undo_0 : decode cX8_undo 0 = .ok (.iload_n 1, 1) := by decide +kernel
theorem dX8_undo_1 : decode cX8_undo 1 = .ok (.invokestatic 116, 3) := by decide +kernel
theorem dX8_undo_4 : decode cX8_undo 4 = .ok (.ifCond .ne 6, 3) := by decide +kernel
theorem dX8_undo_7 : decode cX8_undo 7 = .ok (.bipush (-2), 2) := by decide +kernel
theorem dX8_undo_9 : decode cX8_undo 9 = .ok (.ireturn, 1) := by decide +kernel
theorem dX8_undo_10 : decode cX8_undo 10 = .ok (.aload_n 0, 1) := by decide +kernel
theorem dX8_undo_11 : decode cX8_undo 11 = .ok (.iload_n 1, 1) := by decide +kernel
theorem dX8_undo_12 : decode cX8_undo 12 = .ok (.invokevirtual 124, 3) := by decide +kernel
theorem dX8_undo_15 : decode cX8_undo 15 = .ok (.astore_n 2, 1) := by decide +kernel
theorem dX8_undo_16 : decode cX8_undo 16 = .ok (.aload_n 2, 1) := by decide +kernel
theorem dX8_undo_17 : decode cX8_undo 17 = .ok (.getfield 136, 3) := by decide +kernel
theorem dX8_undo_20 : decode cX8_undo 20 = .ok (.ifCond .gt 6, 3) := by decide +kernel
theorem dX8_undo_23 : decode cX8_undo 23 = .ok (.bipush (-3), 2) := by decide +kernel
theorem dX8_undo_25 : decode cX8_undo 25 = .ok (.ireturn, 1) := by decide +kernel
theorem dX8_undo_26 : decode cX8_undo 26 = .ok (.aload_n 2, 1) := by decide +kernel
theorem dX8_undo_27 : decode cX8_undo 27 = .ok (.dup, 1) := by decide +kernel
theorem dX8_undo_28 : decode cX8_undo 28 = .ok (.getfield 136, 3) := by decide +kernel
theorem dX8_undo_31 : decode cX8_undo 31 = .ok (.iconst 1, 1) := by decide +kernel
theorem dX8_undo_32 : decode cX8_undo 32 = .ok (.isub, 1) := by decide +kernel
theorem dX8_undo_33 : decode cX8_undo 33 = .ok (.putfield 136, 3) := by decide +kernel
theorem dX8_undo_36 : decode cX8_undo 36 = .ok (.aload_n 0, 1) := by decide +kernel
theorem dX8_undo_37 : decode cX8_undo 37 = .ok (.iconst 1, 1) := by decide +kernel
theorem dX8_undo_38 : decode cX8_undo 38 = .ok (.putfield 106, 3) := by decide +kernel
theorem dX8_undo_41 : decode cX8_undo 41 = .ok (.aload_n 2, 1) := by decide +kernel
theorem dX8_undo_42 : decode cX8_undo 42 = .ok (.getfield 136, 3) := by decide +kernel
theorem dX8_undo_45 : decode cX8_undo 45 = .ok (.ireturn, 1) := by decide +kernel
theorem dX8_fault_0 : decode cX8_fault 0 = .ok (.iload_n 1, 1) := by decide +kernel
theorem dX8_fault_1 : decode cX8_fault 1 = .ok (.invokestatic 116, 3) := by decide +kernel
theorem dX8_fault_4 : decode cX8_fault 4 = .ok (.ifCond .ne 6, 3) := by decide +kernel
theorem dX8_fault_7 : decode cX8_fault 7 = .ok (.bipush (-2), 2) := by decide +kernel
theorem dX8_fault_9 : decode cX8_fault 9 = .ok (.ireturn, 1) := by decide +kernel
theorem dX8_fault_10 : decode cX8_fault 10 = .ok (.aload_n 0, 1) := by decide +kernel
theorem dX8_fault_11 : decode cX8_fault 11 = .ok (.iload_n 1, 1) := by decide +kernel
theorem dX8_fault_12 : decode cX8_fault 12 = .ok (.invokevirtual 124, 3) := by decide +kernel
theorem dX8_fault_15 : decode cX8_fault 15 = .ok (.invokevirtual 139, 3) := by decide +kernel
theorem dX8_fault_18 : decode cX8_fault 18 = .ok (.ireturn, 1) := by decide +kernel
theorem dX8_ticket_0 : decode cX8_ticket 0 = .ok (.aload_n 0, 1) := by decide +kernel
theorem dX8_ticket_1 : decode cX8_ticket 1 = .ok (.invokevirtual 143, 3) := by decide +kernel
theorem dX8_ticket_4 : decode cX8_ticket 4 = .ok (.iload_n 1, 1) := by decide +kernel
theorem dX8_ticket_5 : decode cX8_ticket 5 = .ok (.invokestatic 146, 3) := by decide +kernel
theorem dX8_ticket_8 : decode cX8_ticket 8 = .ok (.ifCond .eq 18, 3) := by decide +kernel
theorem dX8_ticket_11 : decode cX8_ticket 11 = .ok (.aload_n 0, 1) := by decide +kernel
theorem dX8_ticket_12 : decode cX8_ticket 12 = .ok (.iload_n 2, 1) := by decide +kernel
theorem dX8_ticket_13 : decode cX8_ticket 13 = .ok (.invokevirtual 149, 3) := by decide +kernel
theorem dX8_ticket_16 : decode cX8_ticket 16 = .ok (.ifCond .eq 10, 3) := by decide +kernel
theorem dX8_ticket_19 : decode cX8_ticket 19 = .ok (.iload_n 3, 1) := by decide +kernel
theorem dX8_ticket_20 : decode cX8_ticket 20 = .ok (.invokestatic 152, 3) := by decide +kernel
theorem dX8_ticket_23 : decode cX8_ticket 23 = .ok (.ifCond .ne 6, 3) := by decide +kernel
theorem dX8_ticket_26 : decode cX8_ticket 26 = .ok (.bipush (-2), 2) := by decide +kernel
theorem dX8_ticket_28 : decode cX8_ticket 28 = .ok (.ireturn, 1) := by decide +kernel
theorem dX8_ticket_29 : decode cX8_ticket 29 = .ok (.aload_n 0, 1) := by decide +kernel
theorem dX8_ticket_30 : decode cX8_ticket 30 = .ok (.getfield 49, 3) := by decide +kernel
theorem dX8_ticket_33 : decode cX8_ticket 33 = .ok (.iload_n 1, 1) := by decide +kernel
theorem dX8_ticket_34 : decode cX8_ticket 34 = .ok (.iload_n 2, 1) := by decide +kernel
theorem dX8_ticket_35 : decode cX8_ticket 35 = .ok (.iload_n 3, 1) := by decide +kernel
theorem dX8_ticket_36 : decode cX8_ticket 36 = .ok (.invokevirtual 155, 3) := by decide +kernel
theorem dX8_ticket_39 : decode cX8_ticket 39 = .ok (.ireturn, 1) := by decide +kernel
theorem dX8_voter_0 : decode cX8_voter 0 = .ok (.aload_n 0, 1) := by decide +kernel
theorem dX8_voter_1 : decode cX8_voter 1 = .ok (.invokevirtual 143, 3) := by decide +kernel
theorem dX8_voter_4 : decode cX8_voter 4 = .ok (.aload_n 0, 1) := by decide +kernel
theorem dX8_voter_5 : decode cX8_voter 5 = .ok (.iload_n 1, 1) := by decide +kernel
theorem dX8_voter_6 : decode cX8_voter 6 = .ok (.invokevirtual 159, 3) := by decide +kernel
theorem dX8_voter_9 : decode cX8_voter 9 = .ok (.ifCond .ne 6, 3) := by decide +kernel
theorem dX8_voter_12 : decode cX8_voter 12 = .ok (.bipush (-2), 2) := by decide +kernel
theorem dX8_voter_14 : decode cX8_voter 14 = .ok (.ireturn, 1) := by decide +kernel
theorem dX8_voter_15 : decode cX8_voter 15 = .ok (.iload_n 2, 1) := by decide +kernel
theorem dX8_voter_16 : decode cX8_voter 16 = .ok (.ifCond .ne 12, 3) := by decide +kernel
theorem dX8_voter_19 : decode cX8_voter 19 = .ok (.aload_n 0, 1) := by decide +kernel
theorem dX8_voter_20 : decode cX8_voter 20 = .ok (.getfield 49, 3) := by decide +kernel
theorem dX8_voter_23 : decode cX8_voter 23 = .ok (.iload_n 1, 1) := by decide +kernel
theorem dX8_voter_24 : decode cX8_voter 24 = .ok (.invokevirtual 162, 3) := by decide +kernel
theorem dX8_voter_27 : decode cX8_voter 27 = .ok (.ireturn, 1) := by decide +kernel
theorem dX8_voter_28 : decode cX8_voter 28 = .ok (.iload_n 2, 1) := by decide +kernel
theorem dX8_voter_29 : decode cX8_voter 29 = .ok (.iconst 1, 1) := by decide +kernel
theorem dX8_voter_30 : decode cX8_voter 30 = .ok (.if_icmp .ne 20, 3) := by decide +kernel
theorem dX8_voter_33 : decode cX8_voter 33 = .ok (.aload_n 0, 1) := by decide +kernel
theorem dX8_voter_34 : decode cX8_voter 34 = .ok (.getfield 49, 3) := by decide +kernel
theorem dX8_voter_37 : decode cX8_voter 37 = .ok (.iload_n 1, 1) := by decide +kernel
theorem dX8_voter_38 : decode cX8_voter 38 = .ok (.invokevirtual 166, 3) := by decide +kernel
theorem dX8_voter_41 : decode cX8_voter 41 = .ok (.ifCond .le 7, 3) := by decide +kernel
theorem dX8_voter_44 : decode cX8_voter 44 = .ok (.iconst 1, 1) := by decide +kernel
theorem dX8_voter_45 : decode cX8_voter 45 = .ok (.goto 4, 3) := by decide +kernel
theorem dX8_voter_48 : decode cX8_voter 48 = .ok (.iconst 0, 1) := by decide +kernel
theorem dX8_voter_49 : decode cX8_voter 49 = .ok (.ireturn, 1) := by decide +kernel
theorem dX8_voter_50 : decode cX8_voter 50 = .ok (.iload_n 2, 1) := by decide +kernel
theorem dX8_voter_51 : decode cX8_voter 51 = .ok (.iconst 2, 1) := by decide +kernel
theorem dX8_voter_52 : decode cX8_voter 52 = .ok (.if_icmp .ne 15, 3) := by decide +kernel
theorem dX8_voter_55 : decode cX8_voter 55 = .ok (.aload_n 0, 1) := by decide +kernel
theorem dX8_voter_56 : decode cX8_voter 56 = .ok (.getfield 49, 3) := by decide +kernel
theorem dX8_voter_59 : decode cX8_voter 59 = .ok (.iload_n 1, 1) := by decide +kernel
theorem dX8_voter_60 : decode cX8_voter 60 = .ok (.invokevirtual 166, 3) := by decide +kernel
theorem dX8_voter_63 : decode cX8_voter 63 = .ok (.invokestatic 169, 3) := by decide +kernel
theorem dX8_voter_66 : decode cX8_voter 66 = .ok (.ireturn, 1) := by decide +kernel
theorem dX8_voter_67 : decode cX8_voter 67 = .ok (.bipush (-2), 2) := by decide +kernel
theorem dX8_voter_69 : decode cX8_voter 69 = .ok (.ireturn, 1) := by decide +kernel
theorem dX8_set_0 : decode cX8_set 0 = .ok (.iload_n 1, 1) := by decide +kernel
theorem dX8_set_1 : decode cX8_set 1 = .ok (.ifCond .ne 24, 3) := by decide +kernel
theorem dX8_set_4 : decode cX8_set 4 = .ok (.iload_n 2, 1) := by decide +kernel
theorem dX8_set_5 : decode cX8_set 5 = .ok (.iconst 0, 1) := by decide +kernel
theorem dX8_set_6 : decode cX8_set 6 = .ok (.iconst 2, 1) := by decide +kernel
theorem dX8_set_7 : decode cX8_set 7 = .ok (.invokestatic 120, 3) := by decide +kernel
theorem dX8_set_10 : decode cX8_set 10 = .ok (.ifCond .eq 15, 3) := by decide +kernel
theorem dX8_set_13 : decode cX8_set 13 = .ok (.aload_n 0, 1) := by decide +kernel
theorem dX8_set_14 : decode cX8_set 14 = .ok (.getfield 96, 3) := by decide +kernel
theorem dX8_set_17 : decode cX8_set 17 = .ok (.istore_n 3, 1) := by decide +kernel
theorem dX8_set_18 : decode cX8_set 18 = .ok (.aload_n 0, 1) := by decide +kernel
theorem dX8_set_19 : decode cX8_set 19 = .ok (.iload_n 2, 1) := by decide +kernel
theorem dX8_set_20 : decode cX8_set 20 = .ok (.putfield 96, 3) := by decide +kernel
theorem dX8_set_23 : decode cX8_set 23 = .ok (.iload_n 3, 1) := by decide +kernel
theorem dX8_set_24 : decode cX8_set 24 = .ok (.ireturn, 1) := by decide +kernel
theorem dX8_set_25 : decode cX8_set 25 = .ok (.iload_n 1, 1) := by decide +kernel
theorem dX8_set_26 : decode cX8_set 26 = .ok (.iconst 1, 1) := by decide +kernel
theorem dX8_set_27 : decode cX8_set 27 = .ok (.if_icmp .ne 24, 3) := by decide +kernel
theorem dX8_set_30 : decode cX8_set 30 = .ok (.iload_n 2, 1) := by decide +kernel
theorem dX8_set_31 : decode cX8_set 31 = .ok (.iconst 0, 1) := by decide +kernel
theorem dX8_set_32 : decode cX8_set 32 = .ok (.iconst 1, 1) := by decide +kernel
theorem dX8_set_33 : decode cX8_set 33 = .ok (.invokestatic 120, 3) := by decide +kernel
theorem dX8_set_36 : decode cX8_set 36 = .ok (.ifCond .eq 15, 3) := by decide +kernel
theorem dX8_set_39 : decode cX8_set 39 = .ok (.aload_n 0, 1) := by decide +kernel
theorem dX8_set_40 : decode cX8_set 40 = .ok (.getfield 100, 3) := by decide +kernel
theorem dX8_set_43 : decode cX8_set 43 = .ok (.istore_n 3, 1) := by decide +kernel
theorem dX8_set_44 : decode cX8_set 44 = .ok (.aload_n 0, 1) := by decide +kernel
theorem dX8_set_45 : decode cX8_set 45 = .ok (.iload_n 2, 1) := by decide +kernel
theorem dX8_set_46 : decode cX8_set 46 = .ok (.putfield 100, 3) := by decide +kernel
theorem dX8_set_49 : decode cX8_set 49 = .ok (.iload_n 3, 1) := by decide +kernel
theorem dX8_set_50 : decode cX8_set 50 = .ok (.ireturn, 1) := by decide +kernel
theorem dX8_set_51 : decode cX8_set 51 = .ok (.bipush (-2), 2) := by decide +kernel
theorem dX8_set_53 : decode cX8_set 53 = .ok (.ireturn, 1) := by decide +kernel
theorem dX8_purse_0 : decode cX8_purse 0 = .ok (.iload_n 1, 1) := by decide +kernel
theorem dX8_purse_1 : decode cX8_purse 1 = .ok (.invokestatic 174, 3) := by decide +kernel
theorem dX8_purse_4 : decode cX8_purse 4 = .ok (.ifCond .eq 14, 3) := by decide +kernel
theorem dX8_purse_7 : decode cX8_purse 7 = .ok (.iload_n 2, 1) := by decide +kernel
theorem dX8_purse_8 : decode cX8_purse 8 = .ok (.iconst 0, 1) := by decide +kernel
theorem dX8_purse_9 : decode cX8_purse 9 = .ok (.sipush 999, 3) := by decide +kernel
theorem dX8_purse_12 : decode cX8_purse 12 = .ok (.invokestatic 120, 3) := by decide +kernel
theorem dX8_purse_15 : decode cX8_purse 15 = .ok (.ifCond .ne 6, 3) := by decide +kernel
theorem dX8_purse_18 : decode cX8_purse 18 = .ok (.bipush (-2), 2) := by decide +kernel
theorem dX8_purse_20 : decode cX8_purse 20 = .ok (.ireturn, 1) := by decide +kernel
theorem dX8_purse_21 : decode cX8_purse 21 = .ok (.aload_n 0, 1) := by decide +kernel
theorem dX8_purse_22 : decode cX8_purse 22 = .ok (.getfield 39, 3) := by decide +kernel
theorem dX8_purse_25 : decode cX8_purse 25 = .ok (.iload_n 1, 1) := by decide +kernel
theorem dX8_purse_26 : decode cX8_purse 26 = .ok (.iaload, 1) := by decide +kernel
theorem dX8_purse_27 : decode cX8_purse 27 = .ok (.istore_n 3, 1) := by decide +kernel
theorem dX8_purse_28 : decode cX8_purse 28 = .ok (.aload_n 0, 1) := by decide +kernel
theorem dX8_purse_29 : decode cX8_purse 29 = .ok (.getfield 39, 3) := by decide +kernel
theorem dX8_purse_32 : decode cX8_purse 32 = .ok (.iload_n 1, 1) := by decide +kernel
theorem dX8_purse_33 : decode cX8_purse 33 = .ok (.iload_n 2, 1) := by decide +kernel
theorem dX8_purse_34 : decode cX8_purse 34 = .ok (.iastore, 1) := by decide +kernel
theorem dX8_purse_35 : decode cX8_purse 35 = .ok (.iload_n 3, 1) := by decide +kernel
theorem dX8_purse_36 : decode cX8_purse 36 = .ok (.ireturn, 1) := by decide +kernel
theorem dX8_change_0 : decode cX8_change 0 = .ok (.iload_n 1, 1) := by decide +kernel
theorem dX8_change_1 : decode cX8_change 1 = .ok (.invokestatic 146, 3) := by decide +kernel
theorem dX8_change_4 : decode cX8_change 4 = .ok (.ifCond .eq 12, 3) := by decide +kernel
theorem dX8_change_7 : decode cX8_change 7 = .ok (.iload_n 2, 1) := by decide +kernel
theorem dX8_change_8 : decode cX8_change 8 = .ok (.iconst 0, 1) := by decide +kernel
theorem dX8_change_9 : decode cX8_change 9 = .ok (.iconst 3, 1) := by decide +kernel
theorem dX8_change_10 : decode cX8_change 10 = .ok (.invokestatic 120, 3) := by decide +kernel
theorem dX8_change_13 : decode cX8_change 13 = .ok (.ifCond .ne 6, 3) := by decide +kernel
theorem dX8_change_16 : decode cX8_change 16 = .ok (.bipush (-2), 2) := by decide +kernel
theorem dX8_change_18 : decode cX8_change 18 = .ok (.ireturn, 1) := by decide +kernel
theorem dX8_change_19 : decode cX8_change 19 = .ok (.iload_n 3, 1) := by decide +kernel
theorem dX8_change_20 : decode cX8_change 20 = .ok (.invokestatic 152, 3) := by decide +kernel
theorem dX8_change_23 : decode cX8_change 23 = .ok (.ifCond .eq 14, 3) := by decide +kernel
theorem dX8_change_26 : decode cX8_change 26 = .ok (.iload 4, 2) := by decide +kernel
theorem dX8_change_28 : decode cX8_change 28 = .ok (.iconst 1, 1) := by decide +kernel
theorem dX8_change_29 : decode cX8_change 29 = .ok (.bipush 9, 2) := by decide +kernel
theorem dX8_change_31 : decode cX8_change 31 = .ok (.invokestatic 120, 3) := by decide +kernel
theorem dX8_change_34 : decode cX8_change 34 = .ok (.ifCond .ne 6, 3) := by decide +kernel
theorem dX8_change_37 : decode cX8_change 37 = .ok (.bipush (-2), 2) := by decide +kernel
theorem dX8_change_39 : decode cX8_change 39 = .ok (.ireturn, 1) := by decide +kernel
theorem dX8_change_40 : decode cX8_change 40 = .ok (.aload_n 0, 1) := by decide +kernel
theorem dX8_change_41 : decode cX8_change 41 = .ok (.getfield 29, 3) := by decide +kernel
theorem dX8_change_44 : decode cX8_change 44 = .ok (.invokevirtual 177, 3) := by decide +kernel
theorem dX8_change_47 : decode cX8_change 47 = .ok (.ifCond .eq 6, 3) := by decide +kernel
theorem dX8_change_50 : decode cX8_change 50 = .ok (.bipush (-4), 2) := by decide +kernel
theorem dX8_change_52 : decode cX8_change 52 = .ok (.ireturn, 1) := by decide +kernel
theorem dX8_change_53 : decode cX8_change 53 = .ok (.aload_n 0, 1) := by decide +kernel
theorem dX8_change_54 : decode cX8_change 54 = .ok (.getfield 29, 3) := by decide +kernel
theorem dX8_change_57 : decode cX8_change 57 = .ok (.invokevirtual 178, 3) := by decide +kernel
theorem dX8_change_60 : decode cX8_change 60 = .ok (.astore 5, 2) := by decide +kernel
theorem dX8_change_62 : decode cX8_change 62 = .ok (.aload 5, 2) := by decide +kernel
theorem dX8_change_64 : decode cX8_change 64 = .ok (.iconst 0, 1) := by decide +kernel
theorem dX8_change_65 : decode cX8_change 65 = .ok (.iload_n 1, 1) := by decide +kernel
theorem dX8_change_66 : decode cX8_change 66 = .ok (.iastore, 1) := by decide +kernel
theorem dX8_change_67 : decode cX8_change 67 = .ok (.aload 5, 2) := by decide +kernel
theorem dX8_change_69 : decode cX8_change 69 = .ok (.iconst 1, 1) := by decide +kernel
theorem dX8_change_70 : decode cX8_change 70 = .ok (.iload_n 2, 1) := by decide +kernel
theorem dX8_change_71 : decode cX8_change 71 = .ok (.iastore, 1) := by decide +kernel
theorem dX8_change_72 : decode cX8_change 72 = .ok (.aload 5, 2) := by decide +kernel
theorem dX8_change_74 : decode cX8_change 74 = .ok (.iconst 2, 1) := by decide +kernel
theorem dX8_change_75 : decode cX8_change 75 = .ok (.iload_n 3, 1) := by decide +kernel
theorem dX8_change_76 : decode cX8_change 76 = .ok (.iastore, 1) := by decide +kernel
theorem dX8_change_77 : decode cX8_change 77 = .ok (.aload 5, 2) := by decide +kernel
theorem dX8_change_79 : decode cX8_change 79 = .ok (.iconst 3, 1) := by decide +kernel
theorem dX8_change_80 : decode cX8_change 80 = .ok (.iload 4, 2) := by decide +kernel
theorem dX8_change_82 : decode cX8_change 82 = .ok (.iastore, 1) := by decide +kernel
theorem dX8_change_83 : decode cX8_change 83 = .ok (.aload_n 0, 1) := by decide +kernel
theorem dX8_change_84 : decode cX8_change 84 = .ok (.iconst 1, 1) := by decide +kernel
theorem dX8_change_85 : decode cX8_change 85 = .ok (.putfield 106, 3) := by decide +kernel
theorem dX8_change_88 : decode cX8_change 88 = .ok (.aload_n 0, 1) := by decide +kernel
theorem dX8_change_89 : decode cX8_change 89 = .ok (.getfield 29, 3) := by decide +kernel
theorem dX8_change_92 : decode cX8_change 92 = .ok (.getfield 182, 3) := by decide +kernel
theorem dX8_change_95 : decode cX8_change 95 = .ok (.ireturn, 1) := by decide +kernel
theorem dX8_back_0 : decode cX8_back 0 = .ok (.iload_n 1, 1) := by decide +kernel
theorem dX8_back_1 : decode cX8_back 1 = .ok (.iconst 0, 1) := by decide +kernel
theorem dX8_back_2 : decode cX8_back 2 = .ok (.iconst 2, 1) := by decide +kernel
theorem dX8_back_3 : decode cX8_back 3 = .ok (.invokestatic 120, 3) := by decide +kernel
theorem dX8_back_6 : decode cX8_back 6 = .ok (.ifCond .ne 6, 3) := by decide +kernel
theorem dX8_back_9 : decode cX8_back 9 = .ok (.bipush (-2), 2) := by decide +kernel
theorem dX8_back_11 : decode cX8_back 11 = .ok (.ireturn, 1) := by decide +kernel
theorem dX8_back_12 : decode cX8_back 12 = .ok (.iload_n 1, 1) := by decide +kernel
theorem dX8_back_13 : decode cX8_back 13 = .ok (.ifCond .ne 10, 3) := by decide +kernel
theorem dX8_back_16 : decode cX8_back 16 = .ok (.aload_n 0, 1) := by decide +kernel
theorem dX8_back_17 : decode cX8_back 17 = .ok (.getfield 29, 3) := by decide +kernel
theorem dX8_back_20 : decode cX8_back 20 = .ok (.goto 19, 3) := by decide +kernel
theorem dX8_back_23 : decode cX8_back 23 = .ok (.iload_n 1, 1) := by decide +kernel
theorem dX8_back_24 : decode cX8_back 24 = .ok (.iconst 1, 1) := by decide +kernel
theorem dX8_back_25 : decode cX8_back 25 = .ok (.if_icmp .ne 10, 3) := by decide +kernel
theorem dX8_back_28 : decode cX8_back 28 = .ok (.aload_n 0, 1) := by decide +kernel
theorem dX8_back_29 : decode cX8_back 29 = .ok (.getfield 33, 3) := by decide +kernel
theorem dX8_back_32 : decode cX8_back 32 = .ok (.goto 7, 3) := by decide +kernel
theorem dX8_back_35 : decode cX8_back 35 = .ok (.aload_n 0, 1) := by decide +kernel
theorem dX8_back_36 : decode cX8_back 36 = .ok (.getfield 36, 3) := by decide +kernel
theorem dX8_back_39 : decode cX8_back 39 = .ok (.astore_n 2, 1) := by decide +kernel
theorem dX8_back_40 : decode cX8_back 40 = .ok (.aload_n 2, 1) := by decide +kernel
theorem dX8_back_41 : decode cX8_back 41 = .ok (.getfield 182, 3) := by decide +kernel
theorem dX8_back_44 : decode cX8_back 44 = .ok (.ifCond .gt 6, 3) := by decide +kernel
theorem dX8_back_47 : decode cX8_back 47 = .ok (.bipush (-3), 2) := by decide +kernel
theorem dX8_back_49 : decode cX8_back 49 = .ok (.ireturn, 1) := by decide +kernel
theorem dX8_back_50 : decode cX8_back 50 = .ok (.aload_n 2, 1) := by decide +kernel
theorem dX8_back_51 : decode cX8_back 51 = .ok (.dup, 1) := by decide +kernel
theorem dX8_back_52 : decode cX8_back 52 = .ok (.getfield 182, 3) := by decide +kernel
theorem dX8_back_55 : decode cX8_back 55 = .ok (.iconst 1, 1) := by decide +kernel
theorem dX8_back_56 : decode cX8_back 56 = .ok (.isub, 1) := by decide +kernel
theorem dX8_back_57 : decode cX8_back 57 = .ok (.putfield 182, 3) := by decide +kernel
theorem dX8_back_60 : decode cX8_back 60 = .ok (.aload_n 0, 1) := by decide +kernel
theorem dX8_back_61 : decode cX8_back 61 = .ok (.iconst 1, 1) := by decide +kernel
theorem dX8_back_62 : decode cX8_back 62 = .ok (.putfield 106, 3) := by decide +kernel
theorem dX8_back_65 : decode cX8_back 65 = .ok (.aload_n 2, 1) := by decide +kernel
theorem dX8_back_66 : decode cX8_back 66 = .ok (.getfield 182, 3) := by decide +kernel
theorem dX8_back_69 : decode cX8_back 69 = .ok (.ireturn, 1) := by decide +kernel
theorem dX8_elected_0 : decode cX8_elected 0 = .ok (.iload_n 1, 1) := by decide +kernel
theorem dX8_elected_1 : decode cX8_elected 1 = .ok (.invokestatic 146, 3) := by decide +kernel
theorem dX8_elected_4 : decode cX8_elected 4 = .ok (.ifCond .eq 10, 3) := by decide +kernel
theorem dX8_elected_7 : decode cX8_elected 7 = .ok (.iload_n 2, 1) := by decide +kernel
theorem dX8_elected_8 : decode cX8_elected 8 = .ok (.invokestatic 152, 3) := by decide +kernel
theorem dX8_elected_11 : decode cX8_elected 11 = .ok (.ifCond .ne 6, 3) := by decide +kernel
theorem dX8_elected_14 : decode cX8_elected 14 = .ok (.bipush (-2), 2) := by decide +kernel
theorem dX8_elected_16 : decode cX8_elected 16 = .ok (.ireturn, 1) := by decide +kernel
theorem dX8_elected_17 : decode cX8_elected 17 = .ok (.aload_n 0, 1) := by decide +kernel
theorem dX8_elected_18 : decode cX8_elected 18 = .ok (.invokevirtual 143, 3) := by decide +kernel
theorem dX8_elected_21 : decode cX8_elected 21 = .ok (.aload_n 0, 1) := by decide +kernel
theorem dX8_elected_22 : decode cX8_elected 22 = .ok (.aload_n 0, 1) := by decide +kernel
theorem dX8_elected_23 : decode cX8_elected 23 = .ok (.getfield 96, 3) := by decide +kernel
theorem dX8_elected_26 : decode cX8_elected 26 = .ok (.invokevirtual 183, 3) := by decide +kernel
theorem dX8_elected_29 : decode cX8_elected 29 = .ok (.iload_n 1, 1) := by decide +kernel
theorem dX8_elected_30 : decode cX8_elected 30 = .ok (.iload_n 2, 1) := by decide +kernel
theorem dX8_elected_31 : decode cX8_elected 31 = .ok (.invokevirtual 187, 3) := by decide +kernel
theorem dX8_elected_34 : decode cX8_elected 34 = .ok (.ireturn, 1) := by decide +kernel
theorem dX8_great_0 : decode cX8_great 0 = .ok (.iload_n 1, 1) := by decide +kernel
theorem dX8_great_1 : decode cX8_great 1 = .ok (.invokestatic 146, 3) := by decide +kernel
theorem dX8_great_4 : decode cX8_great 4 = .ok (.ifCond .eq 10, 3) := by decide +kernel
theorem dX8_great_7 : decode cX8_great 7 = .ok (.iload_n 2, 1) := by decide +kernel
theorem dX8_great_8 : decode cX8_great 8 = .ok (.invokestatic 152, 3) := by decide +kernel
theorem dX8_great_11 : decode cX8_great 11 = .ok (.ifCond .ne 6, 3) := by decide +kernel
theorem dX8_great_14 : decode cX8_great 14 = .ok (.bipush (-2), 2) := by decide +kernel
theorem dX8_great_16 : decode cX8_great 16 = .ok (.ireturn, 1) := by decide +kernel
theorem dX8_great_17 : decode cX8_great 17 = .ok (.aload_n 0, 1) := by decide +kernel
theorem dX8_great_18 : decode cX8_great 18 = .ok (.invokevirtual 143, 3) := by decide +kernel
theorem dX8_great_21 : decode cX8_great 21 = .ok (.aload_n 0, 1) := by decide +kernel
theorem dX8_great_22 : decode cX8_great 22 = .ok (.aload_n 0, 1) := by decide +kernel
theorem dX8_great_23 : decode cX8_great 23 = .ok (.getfield 96, 3) := by decide +kernel
theorem dX8_great_26 : decode cX8_great 26 = .ok (.invokevirtual 183, 3) := by decide +kernel
theorem dX8_great_29 : decode cX8_great 29 = .ok (.iload_n 1, 1) := by decide +kernel
theorem dX8_great_30 : decode cX8_great 30 = .ok (.iload_n 2, 1) := by decide +kernel
theorem dX8_great_31 : decode cX8_great 31 = .ok (.invokevirtual 191, 3) := by decide +kernel
theorem dX8_great_34 : decode cX8_great 34 = .ok (.ireturn, 1) := by decide +kernel
theorem dX8_votes_0 : decode cX8_votes 0 = .ok (.aload_n 0, 1) := by decide +kernel
theorem dX8_votes_1 : decode cX8_votes 1 = .ok (.invokevirtual 143, 3) := by decide +kernel
theorem dX8_votes_4 : decode cX8_votes 4 = .ok (.iload_n 1, 1) := by decide +kernel
theorem dX8_votes_5 : decode cX8_votes 5 = .ok (.invokestatic 146, 3) := by decide +kernel
theorem dX8_votes_8 : decode cX8_votes 8 = .ok (.ifCond .eq 18, 3) := by decide +kernel
theorem dX8_votes_11 : decode cX8_votes 11 = .ok (.iload_n 2, 1) := by decide +kernel
theorem dX8_votes_12 : decode cX8_votes 12 = .ok (.invokestatic 152, 3) := by decide +kernel
theorem dX8_votes_15 : decode cX8_votes 15 = .ok (.ifCond .eq 11, 3) := by decide +kernel
theorem dX8_votes_18 : decode cX8_votes 18 = .ok (.aload_n 0, 1) := by decide +kernel
theorem dX8_votes_19 : decode cX8_votes 19 = .ok (.iload_n 3, 1) := by decide +kernel
theorem dX8_votes_20 : decode cX8_votes 20 = .ok (.invokevirtual 149, 3) := by decide +kernel
theorem dX8_votes_23 : decode cX8_votes 23 = .ok (.ifCond .ne 6, 3) := by decide +kernel
theorem dX8_votes_26 : decode cX8_votes 26 = .ok (.bipush (-2), 2) := by decide +kernel
theorem dX8_votes_28 : decode cX8_votes 28 = .ok (.ireturn, 1) := by decide +kernel
theorem dX8_votes_29 : decode cX8_votes 29 = .ok (.aload_n 0, 1) := by decide +kernel
theorem dX8_votes_30 : decode cX8_votes 30 = .ok (.aload_n 0, 1) := by decide +kernel
theorem dX8_votes_31 : decode cX8_votes 31 = .ok (.getfield 96, 3) := by decide +kernel
theorem dX8_votes_34 : decode cX8_votes 34 = .ok (.invokevirtual 183, 3) := by decide +kernel
theorem dX8_votes_37 : decode cX8_votes 37 = .ok (.iload_n 1, 1) := by decide +kernel
theorem dX8_votes_38 : decode cX8_votes 38 = .ok (.iload_n 2, 1) := by decide +kernel
theorem dX8_votes_39 : decode cX8_votes 39 = .ok (.iload_n 3, 1) := by decide +kernel
theorem dX8_votes_40 : decode cX8_votes 40 = .ok (.invokevirtual 194, 3) := by decide +kernel
theorem dX8_votes_43 : decode cX8_votes 43 = .ok (.ireturn, 1) := by decide +kernel
theorem dX8_split_0 : decode cX8_split 0 = .ok (.aload_n 0, 1) := by decide +kernel
theorem dX8_split_1 : decode cX8_split 1 = .ok (.invokevirtual 143, 3) := by decide +kernel
theorem dX8_split_4 : decode cX8_split 4 = .ok (.aload_n 0, 1) := by decide +kernel
theorem dX8_split_5 : decode cX8_split 5 = .ok (.getfield 58, 3) := by decide +kernel
theorem dX8_split_8 : decode cX8_split 8 = .ok (.invokevirtual 197, 3) := by decide +kernel
theorem dX8_split_11 : decode cX8_split 11 = .ok (.aload_n 0, 1) := by decide +kernel
theorem dX8_split_12 : decode cX8_split 12 = .ok (.getfield 62, 3) := by decide +kernel
theorem dX8_split_15 : decode cX8_split 15 = .ok (.invokevirtual 197, 3) := by decide +kernel
theorem dX8_split_18 : decode cX8_split 18 = .ok (.iconst 0, 1) := by decide +kernel
theorem dX8_split_19 : decode cX8_split 19 = .ok (.istore_n 1, 1) := by decide +kernel
theorem dX8_split_20 : decode cX8_split 20 = .ok (.iconst 0, 1) := by decide +kernel
theorem dX8_split_21 : decode cX8_split 21 = .ok (.istore_n 2, 1) := by decide +kernel
theorem dX8_split_22 : decode cX8_split 22 = .ok (.iload_n 2, 1) := by decide +kernel
theorem dX8_split_23 : decode cX8_split 23 = .ok (.bipush 10, 2) := by decide +kernel
theorem dX8_split_25 : decode cX8_split 25 = .ok (.if_icmp .ge 49, 3) := by decide +kernel
theorem dX8_split_28 : decode cX8_split 28 = .ok (.iconst 0, 1) := by decide +kernel
theorem dX8_split_29 : decode cX8_split 29 = .ok (.istore_n 3, 1) := by decide +kernel
theorem dX8_split_30 : decode cX8_split 30 = .ok (.iload_n 3, 1) := by decide +kernel
theorem dX8_split_31 : decode cX8_split 31 = .ok (.iconst 3, 1) := by decide +kernel
theorem dX8_split_32 : decode cX8_split 32 = .ok (.if_icmp .ge 36, 3) := by decide +kernel
theorem dX8_split_35 : decode cX8_split 35 = .ok (.aload_n 0, 1) := by decide +kernel
theorem dX8_split_36 : decode cX8_split 36 = .ok (.getfield 58, 3) := by decide +kernel
theorem dX8_split_39 : decode cX8_split 39 = .ok (.iload_n 2, 1) := by decide +kernel
theorem dX8_split_40 : decode cX8_split 40 = .ok (.iload_n 3, 1) := by decide +kernel
theorem dX8_split_41 : decode cX8_split 41 = .ok (.invokevirtual 191, 3) := by decide +kernel
theorem dX8_split_44 : decode cX8_split 44 = .ok (.aload_n 0, 1) := by decide +kernel
theorem dX8_split_45 : decode cX8_split 45 = .ok (.getfield 62, 3) := by decide +kernel
theorem dX8_split_48 : decode cX8_split 48 = .ok (.iload_n 2, 1) := by decide +kernel
theorem dX8_split_49 : decode cX8_split 49 = .ok (.iload_n 3, 1) := by decide +kernel
theorem dX8_split_50 : decode cX8_split 50 = .ok (.invokevirtual 191, 3) := by decide +kernel
theorem dX8_split_53 : decode cX8_split 53 = .ok (.if_icmp .eq 9, 3) := by decide +kernel
theorem dX8_split_56 : decode cX8_split 56 = .ok (.iload_n 1, 1) := by decide +kernel
theorem dX8_split_57 : decode cX8_split 57 = .ok (.iconst 1, 1) := by decide +kernel
theorem dX8_split_58 : decode cX8_split 58 = .ok (.iload_n 2, 1) := by decide +kernel
theorem dX8_split_59 : decode cX8_split 59 = .ok (.ishl, 1) := by decide +kernel
theorem dX8_split_60 : decode cX8_split 60 = .ok (.ior, 1) := by decide +kernel
theorem dX8_split_61 : decode cX8_split 61 = .ok (.istore_n 1, 1) := by decide +kernel
theorem dX8_split_62 : decode cX8_split 62 = .ok (.iinc 3 1, 3) := by decide +kernel
theorem dX8_split_65 : decode cX8_split 65 = .ok (.goto (-35), 3) := by decide +kernel
theorem dX8_split_68 : decode cX8_split 68 = .ok (.iinc 2 1, 3) := by decide +kernel
theorem dX8_split_71 : decode cX8_split 71 = .ok (.goto (-49), 3) := by decide +kernel
theorem dX8_split_74 : decode cX8_split 74 = .ok (.iload_n 1, 1) := by decide +kernel
theorem dX8_split_75 : decode cX8_split 75 = .ok (.ireturn, 1) := by decide +kernel
theorem dX8_contract_0 : decode cX8_contract 0 = .ok (.iload_n 1, 1) := by decide +kernel
theorem dX8_contract_1 : decode cX8_contract 1 = .ok (.invokestatic 174, 3) := by decide +kernel
theorem dX8_contract_4 : decode cX8_contract 4 = .ok (.ifCond .eq 15, 3) := by decide +kernel
theorem dX8_contract_7 : decode cX8_contract 7 = .ok (.iload_n 2, 1) := by decide +kernel
theorem dX8_contract_8 : decode cX8_contract 8 = .ok (.invokestatic 174, 3) := by decide +kernel
theorem dX8_contract_11 : decode cX8_contract 11 = .ok (.ifCond .eq 8, 3) := by decide +kernel
theorem dX8_contract_14 : decode cX8_contract 14 = .ok (.iload_n 1, 1) := by decide +kernel
theorem dX8_contract_15 : decode cX8_contract 15 = .ok (.iload_n 2, 1) := by decide +kernel
theorem dX8_contract_16 : decode cX8_contract 16 = .ok (.if_icmp .ne 6, 3) := by decide +kernel
theorem dX8_contract_19 : decode cX8_contract 19 = .ok (.bipush (-2), 2) := by decide +kernel
theorem dX8_contract_21 : decode cX8_contract 21 = .ok (.ireturn, 1) := by decide +kernel
theorem dX8_contract_22 : decode cX8_contract 22 = .ok (.iload_n 3, 1) := by decide +kernel
theorem dX8_contract_23 : decode cX8_contract 23 = .ok (.iconst 1, 1) := by decide +kernel
theorem dX8_contract_24 : decode cX8_contract 24 = .ok (.bipush 99, 2) := by decide +kernel
theorem dX8_contract_26 : decode cX8_contract 26 = .ok (.invokestatic 120, 3) := by decide +kernel
theorem dX8_contract_29 : decode cX8_contract 29 = .ok (.ifCond .eq 11, 3) := by decide +kernel
theorem dX8_contract_32 : decode cX8_contract 32 = .ok (.iload 4, 2) := by decide +kernel
theorem dX8_contract_34 : decode cX8_contract 34 = .ok (.invokestatic 152, 3) := by decide +kernel
theorem dX8_contract_37 : decode cX8_contract 37 = .ok (.ifCond .ne 6, 3) := by decide +kernel
theorem dX8_contract_40 : decode cX8_contract 40 = .ok (.bipush (-2), 2) := by decide +kernel
theorem dX8_contract_42 : decode cX8_contract 42 = .ok (.ireturn, 1) := by decide +kernel
theorem dX8_contract_43 : decode cX8_contract 43 = .ok (.iload 5, 2) := by decide +kernel
theorem dX8_contract_45 : decode cX8_contract 45 = .ok (.invokestatic 146, 3) := by decide +kernel
theorem dX8_contract_48 : decode cX8_contract 48 = .ok (.ifCond .eq 18, 3) := by decide +kernel
theorem dX8_contract_51 : decode cX8_contract 51 = .ok (.iload 6, 2) := by decide +kernel
theorem dX8_contract_53 : decode cX8_contract 53 = .ok (.invokestatic 146, 3) := by decide +kernel
theorem dX8_contract_56 : decode cX8_contract 56 = .ok (.ifCond .eq 10, 3) := by decide +kernel
theorem dX8_contract_59 : decode cX8_contract 59 = .ok (.iload 6, 2) := by decide +kernel
theorem dX8_contract_61 : decode cX8_contract 61 = .ok (.iload 5, 2) := by decide +kernel
theorem dX8_contract_63 : decode cX8_contract 63 = .ok (.if_icmp .gt 6, 3) := by decide +kernel
theorem dX8_contract_66 : decode cX8_contract 66 = .ok (.bipush (-2), 2) := by decide +kernel
theorem dX8_contract_68 : decode cX8_contract 68 = .ok (.ireturn, 1) := by decide +kernel
theorem dX8_contract_69 : decode cX8_contract 69 = .ok (.aload_n 0, 1) := by decide +kernel
theorem dX8_contract_70 : decode cX8_contract 70 = .ok (.getfield 33, 3) := by decide +kernel
theorem dX8_contract_73 : decode cX8_contract 73 = .ok (.invokevirtual 177, 3) := by decide +kernel
theorem dX8_contract_76 : decode cX8_contract 76 = .ok (.ifCond .eq 6, 3) := by decide +kernel
theorem dX8_contract_79 : decode cX8_contract 79 = .ok (.bipush (-4), 2) := by decide +kernel
theorem dX8_contract_81 : decode cX8_contract 81 = .ok (.ireturn, 1) := by decide +kernel
theorem dX8_contract_82 : decode cX8_contract 82 = .ok (.aload_n 0, 1) := by decide +kernel
theorem dX8_contract_83 : decode cX8_contract 83 = .ok (.getfield 33, 3) := by decide +kernel
theorem dX8_contract_86 : decode cX8_contract 86 = .ok (.invokevirtual 178, 3) := by decide +kernel
theorem dX8_contract_89 : decode cX8_contract 89 = .ok (.astore 7, 2) := by decide +kernel
theorem dX8_contract_91 : decode cX8_contract 91 = .ok (.aload 7, 2) := by decide +kernel
theorem dX8_contract_93 : decode cX8_contract 93 = .ok (.iconst 0, 1) := by decide +kernel
theorem dX8_contract_94 : decode cX8_contract 94 = .ok (.iload_n 1, 1) := by decide +kernel
theorem dX8_contract_95 : decode cX8_contract 95 = .ok (.iastore, 1) := by decide +kernel
theorem dX8_contract_96 : decode cX8_contract 96 = .ok (.aload 7, 2) := by decide +kernel
theorem dX8_contract_98 : decode cX8_contract 98 = .ok (.iconst 1, 1) := by decide +kernel
theorem dX8_contract_99 : decode cX8_contract 99 = .ok (.iload_n 2, 1) := by decide +kernel
theorem dX8_contract_100 : decode cX8_contract 100 = .ok (.iastore, 1) := by decide +kernel
theorem dX8_contract_101 : decode cX8_contract 101 = .ok (.aload 7, 2) := by decide +kernel
theorem dX8_contract_103 : decode cX8_contract 103 = .ok (.iconst 2, 1) := by decide +kernel
theorem dX8_contract_104 : decode cX8_contract 104 = .ok (.iload_n 3, 1) := by decide +kernel
theorem dX8_contract_105 : decode cX8_contract 105 = .ok (.iastore, 1) := by decide +kernel
theorem dX8_contract_106 : decode cX8_contract 106 = .ok (.aload 7, 2) := by decide +kernel
theorem dX8_contract_108 : decode cX8_contract 108 = .ok (.iconst 3, 1) := by decide +kernel
theorem dX8_contract_109 : decode cX8_contract 109 = .ok (.iload 4, 2) := by decide +kernel
theorem dX8_contract_111 : decode cX8_contract 111 = .ok (.iastore, 1) := by decide +kernel
theorem dX8_contract_112 : decode cX8_contract 112 = .ok (.aload 7, 2) := by decide +kernel
theorem dX8_contract_114 : decode cX8_contract 114 = .ok (.iconst 4, 1) := by decide +kernel
theorem dX8_contract_115 : decode cX8_contract 115 = .ok (.iload 5, 2) := by decide +kernel
theorem dX8_contract_117 : decode cX8_contract 117 = .ok (.iastore, 1) := by decide +kernel
theorem dX8_contract_118 : decode cX8_contract 118 = .ok (.aload 7, 2) := by decide +kernel
theorem dX8_contract_120 : decode cX8_contract 120 = .ok (.iconst 5, 1) := by decide +kernel
theorem dX8_contract_121 : decode cX8_contract 121 = .ok (.iload 6, 2) := by decide +kernel
theorem dX8_contract_123 : decode cX8_contract 123 = .ok (.iastore, 1) := by decide +kernel
theorem dX8_contract_124 : decode cX8_contract 124 = .ok (.aload_n 0, 1) := by decide +kernel
theorem dX8_contract_125 : decode cX8_contract 125 = .ok (.getfield 33, 3) := by decide +kernel
theorem dX8_contract_128 : decode cX8_contract 128 = .ok (.getfield 182, 3) := by decide +kernel
theorem dX8_contract_131 : decode cX8_contract 131 = .ok (.ireturn, 1) := by decide +kernel
theorem dX8_money_0 : decode cX8_money 0 = .ok (.iload_n 1, 1) := by decide +kernel
theorem dX8_money_1 : decode cX8_money 1 = .ok (.invokestatic 174, 3) := by decide +kernel
theorem dX8_money_4 : decode cX8_money 4 = .ok (.ifCond .eq 10, 3) := by decide +kernel
theorem dX8_money_7 : decode cX8_money 7 = .ok (.iload_n 2, 1) := by decide +kernel
theorem dX8_money_8 : decode cX8_money 8 = .ok (.invokestatic 146, 3) := by decide +kernel
theorem dX8_money_11 : decode cX8_money 11 = .ok (.ifCond .ne 6, 3) := by decide +kernel
theorem dX8_money_14 : decode cX8_money 14 = .ok (.ldc 200, 2) := by decide +kernel
theorem dX8_money_16 : decode cX8_money 16 = .ok (.ireturn, 1) := by decide +kernel
theorem dX8_money_17 : decode cX8_money 17 = .ok (.aload_n 0, 1) := by decide +kernel
theorem dX8_money_18 : decode cX8_money 18 = .ok (.invokevirtual 143, 3) := by decide +kernel
theorem dX8_money_21 : decode cX8_money 21 = .ok (.aload_n 0, 1) := by decide +kernel
theorem dX8_money_22 : decode cX8_money 22 = .ok (.iload_n 1, 1) := by decide +kernel
theorem dX8_money_23 : decode cX8_money 23 = .ok (.iload_n 2, 1) := by decide +kernel
theorem dX8_money_24 : decode cX8_money 24 = .ok (.invokevirtual 201, 3) := by decide +kernel
theorem dX8_money_27 : decode cX8_money 27 = .ok (.ireturn, 1) := by decide +kernel
theorem dX8_ruined_0 : decode cX8_ruined 0 = .ok (.iload_n 1, 1) := by decide +kernel
theorem dX8_ruined_1 : decode cX8_ruined 1 = .ok (.iconst 0, 1) := by decide +kernel
theorem dX8_ruined_2 : decode cX8_ruined 2 = .ok (.iconst 1, 1) := by decide +kernel
theorem dX8_ruined_3 : decode cX8_ruined 3 = .ok (.invokestatic 120, 3) := by decide +kernel
theorem dX8_ruined_6 : decode cX8_ruined 6 = .ok (.ifCond .ne 6, 3) := by decide +kernel
theorem dX8_ruined_9 : decode cX8_ruined 9 = .ok (.bipush (-2), 2) := by decide +kernel
theorem dX8_ruined_11 : decode cX8_ruined 11 = .ok (.ireturn, 1) := by decide +kernel
theorem dX8_ruined_12 : decode cX8_ruined 12 = .ok (.aload_n 0, 1) := by decide +kernel
theorem dX8_ruined_13 : decode cX8_ruined 13 = .ok (.invokevirtual 143, 3) := by decide +kernel
theorem dX8_ruined_16 : decode cX8_ruined 16 = .ok (.aload_n 0, 1) := by decide +kernel
theorem dX8_ruined_17 : decode cX8_ruined 17 = .ok (.invokevirtual 204, 3) := by decide +kernel
theorem dX8_ruined_20 : decode cX8_ruined 20 = .ok (.istore_n 2, 1) := by decide +kernel
theorem dX8_ruined_21 : decode cX8_ruined 21 = .ok (.iload_n 2, 1) := by decide +kernel
theorem dX8_ruined_22 : decode cX8_ruined 22 = .ok (.iconst (-1), 1) := by decide +kernel
theorem dX8_ruined_23 : decode cX8_ruined 23 = .ok (.if_icmp .ne 5, 3) := by decide +kernel
theorem dX8_ruined_26 : decode cX8_ruined 26 = .ok (.iconst (-1), 1) := by decide +kernel
theorem dX8_ruined_27 : decode cX8_ruined 27 = .ok (.ireturn, 1) := by decide +kernel
theorem dX8_ruined_28 : decode cX8_ruined 28 = .ok (.aload_n 0, 1) := by decide +kernel
theorem dX8_ruined_29 : decode cX8_ruined 29 = .ok (.getfield 33, 3) := by decide +kernel
theorem dX8_ruined_32 : decode cX8_ruined 32 = .ok (.getfield 207, 3) := by decide +kernel
theorem dX8_ruined_35 : decode cX8_ruined 35 = .ok (.iload_n 2, 1) := by decide +kernel
theorem dX8_ruined_36 : decode cX8_ruined 36 = .ok (.aaload, 1) := by decide +kernel
theorem dX8_ruined_37 : decode cX8_ruined 37 = .ok (.iload_n 1, 1) := by decide +kernel
theorem dX8_ruined_38 : decode cX8_ruined 38 = .ok (.ifCond .ne 7, 3) := by decide +kernel
theorem dX8_ruined_41 : decode cX8_ruined 41 = .ok (.iconst 0, 1) := by decide +kernel
theorem dX8_ruined_42 : decode cX8_ruined 42 = .ok (.goto 4, 3) := by decide +kernel
theorem dX8_ruined_45 : decode cX8_ruined 45 = .ok (.iconst 5, 1) := by decide +kernel
theorem dX8_ruined_46 : decode cX8_ruined 46 = .ok (.iaload, 1) := by decide +kernel
theorem dX8_ruined_47 : decode cX8_ruined 47 = .ok (.ireturn, 1) := by decide +kernel
theorem dX8_worst_0 : decode cX8_worst 0 = .ok (.iload_n 1, 1) := by decide +kernel
theorem dX8_worst_1 : decode cX8_worst 1 = .ok (.iconst 0, 1) := by decide +kernel
theorem dX8_worst_2 : decode cX8_worst 2 = .ok (.aload_n 0, 1) := by decide +kernel
theorem dX8_worst_3 : decode cX8_worst 3 = .ok (.getfield 33, 3) := by decide +kernel
theorem dX8_worst_6 : decode cX8_worst 6 = .ok (.getfield 182, 3) := by decide +kernel
theorem dX8_worst_9 : decode cX8_worst 9 = .ok (.iconst 1, 1) := by decide +kernel
theorem dX8_worst_10 : decode cX8_worst 10 = .ok (.isub, 1) := by decide +kernel
theorem dX8_worst_11 : decode cX8_worst 11 = .ok (.invokestatic 120, 3) := by decide +kernel
theorem dX8_worst_14 : decode cX8_worst 14 = .ok (.ifCond .ne 6, 3) := by decide +kernel
theorem dX8_worst_17 : decode cX8_worst 17 = .ok (.bipush (-2), 2) := by decide +kernel
theorem dX8_worst_19 : decode cX8_worst 19 = .ok (.ireturn, 1) := by decide +kernel
theorem dX8_worst_20 : decode cX8_worst 20 = .ok (.aload_n 0, 1) := by decide +kernel
theorem dX8_worst_21 : decode cX8_worst 21 = .ok (.invokevirtual 143, 3) := by decide +kernel
theorem dX8_worst_24 : decode cX8_worst 24 = .ok (.aload_n 0, 1) := by decide +kernel
theorem dX8_worst_25 : decode cX8_worst 25 = .ok (.getfield 33, 3) := by decide +kernel
theorem dX8_worst_28 : decode cX8_worst 28 = .ok (.getfield 207, 3) := by decide +kernel
theorem dX8_worst_31 : decode cX8_worst 31 = .ok (.iload_n 1, 1) := by decide +kernel
theorem dX8_worst_32 : decode cX8_worst 32 = .ok (.aaload, 1) := by decide +kernel
theorem dX8_worst_33 : decode cX8_worst 33 = .ok (.astore_n 2, 1) := by decide +kernel
theorem dX8_worst_34 : decode cX8_worst 34 = .ok (.aload_n 0, 1) := by decide +kernel
theorem dX8_worst_35 : decode cX8_worst 35 = .ok (.aload_n 2, 1) := by decide +kernel
theorem dX8_worst_36 : decode cX8_worst 36 = .ok (.aload_n 2, 1) := by decide +kernel
theorem dX8_worst_37 : decode cX8_worst 37 = .ok (.iconst 4, 1) := by decide +kernel
theorem dX8_worst_38 : decode cX8_worst 38 = .ok (.iaload, 1) := by decide +kernel
theorem dX8_worst_39 : decode cX8_worst 39 = .ok (.invokevirtual 211, 3) := by decide +kernel
theorem dX8_worst_42 : decode cX8_worst 42 = .ok (.aload_n 0, 1) := by decide +kernel
theorem dX8_worst_43 : decode cX8_worst 43 = .ok (.aload_n 2, 1) := by decide +kernel
theorem dX8_worst_44 : decode cX8_worst 44 = .ok (.aload_n 2, 1) := by decide +kernel
theorem dX8_worst_45 : decode cX8_worst 45 = .ok (.iconst 5, 1) := by decide +kernel
theorem dX8_worst_46 : decode cX8_worst 46 = .ok (.iaload, 1) := by decide +kernel
theorem dX8_worst_47 : decode cX8_worst 47 = .ok (.invokevirtual 211, 3) := by decide +kernel
theorem dX8_worst_50 : decode cX8_worst 50 = .ok (.isub, 1) := by decide +kernel
theorem dX8_worst_51 : decode cX8_worst 51 = .ok (.invokestatic 169, 3) := by decide +kernel
theorem dX8_worst_54 : decode cX8_worst 54 = .ok (.ireturn, 1) := by decide +kernel
theorem dX8_rest_0 : decode cX8_rest 0 = .ok (.iload_n 1, 1) := by decide +kernel
theorem dX8_rest_1 : decode cX8_rest 1 = .ok (.iconst 0, 1) := by decide +kernel
theorem dX8_rest_2 : decode cX8_rest 2 = .ok (.sipush 4095, 3) := by decide +kernel
theorem dX8_rest_5 : decode cX8_rest 5 = .ok (.invokestatic 120, 3) := by decide +kernel
theorem dX8_rest_8 : decode cX8_rest 8 = .ok (.ifCond .ne 6, 3) := by decide +kernel
theorem dX8_rest_11 : decode cX8_rest 11 = .ok (.bipush (-2), 2) := by decide +kernel
theorem dX8_rest_13 : decode cX8_rest 13 = .ok (.ireturn, 1) := by decide +kernel
theorem dX8_rest_14 : decode cX8_rest 14 = .ok (.aload_n 0, 1) := by decide +kernel
theorem dX8_rest_15 : decode cX8_rest 15 = .ok (.invokevirtual 143, 3) := by decide +kernel
theorem dX8_rest_18 : decode cX8_rest 18 = .ok (.aload_n 0, 1) := by decide +kernel
theorem dX8_rest_19 : decode cX8_rest 19 = .ok (.getfield 49, 3) := by decide +kernel
theorem dX8_rest_22 : decode cX8_rest 22 = .ok (.getfield 215, 3) := by decide +kernel
theorem dX8_rest_25 : decode cX8_rest 25 = .ok (.ifCond .ne 6, 3) := by decide +kernel
theorem dX8_rest_28 : decode cX8_rest 28 = .ok (.bipush (-3), 2) := by decide +kernel
theorem dX8_rest_30 : decode cX8_rest 30 = .ok (.ireturn, 1) := by decide +kernel
theorem dX8_rest_31 : decode cX8_rest 31 = .ok (.aload_n 0, 1) := by decide +kernel
theorem dX8_rest_32 : decode cX8_rest 32 = .ok (.getfield 73, 3) := by decide +kernel
theorem dX8_rest_35 : decode cX8_rest 35 = .ok (.iload_n 1, 1) := by decide +kernel
theorem dX8_rest_36 : decode cX8_rest 36 = .ok (.invokevirtual 218, 3) := by decide +kernel
theorem dX8_rest_39 : decode cX8_rest 39 = .ok (.ifCond .ne 6, 3) := by decide +kernel
theorem dX8_rest_42 : decode cX8_rest 42 = .ok (.bipush (-2), 2) := by decide +kernel
theorem dX8_rest_44 : decode cX8_rest 44 = .ok (.ireturn, 1) := by decide +kernel
theorem dX8_rest_45 : decode cX8_rest 45 = .ok (.aload_n 0, 1) := by decide +kernel
theorem dX8_rest_46 : decode cX8_rest 46 = .ok (.getfield 73, 3) := by decide +kernel
theorem dX8_rest_49 : decode cX8_rest 49 = .ok (.iload_n 1, 1) := by decide +kernel
theorem dX8_rest_50 : decode cX8_rest 50 = .ok (.invokevirtual 221, 3) := by decide +kernel
theorem dX8_rest_53 : decode cX8_rest 53 = .ok (.ifCond .eq 7, 3) := by decide +kernel
theorem dX8_rest_56 : decode cX8_rest 56 = .ok (.iconst 1, 1) := by decide +kernel
theorem dX8_rest_57 : decode cX8_rest 57 = .ok (.goto 4, 3) := by decide +kernel
theorem dX8_rest_60 : decode cX8_rest 60 = .ok (.iconst 0, 1) := by decide +kernel
theorem dX8_rest_61 : decode cX8_rest 61 = .ok (.ireturn, 1) := by decide +kernel
theorem dX8_rests_0 : decode cX8_rests 0 = .ok (.aload_n 0, 1) := by decide +kernel
theorem dX8_rests_1 : decode cX8_rests 1 = .ok (.invokevirtual 143, 3) := by decide +kernel
theorem dX8_rests_4 : decode cX8_rests 4 = .ok (.aload_n 0, 1) := by decide +kernel
theorem dX8_rests_5 : decode cX8_rests 5 = .ok (.getfield 73, 3) := by decide +kernel
theorem dX8_rests_8 : decode cX8_rests 8 = .ok (.invokevirtual 224, 3) := by decide +kernel
theorem dX8_rests_11 : decode cX8_rests 11 = .ok (.ireturn, 1) := by decide +kernel
theorem dX8_wins_0 : decode cX8_wins 0 = .ok (.aload_n 0, 1) := by decide +kernel
theorem dX8_wins_1 : decode cX8_wins 1 = .ok (.invokevirtual 143, 3) := by decide +kernel
theorem dX8_wins_4 : decode cX8_wins 4 = .ok (.aload_n 0, 1) := by decide +kernel
theorem dX8_wins_5 : decode cX8_wins 5 = .ok (.iload_n 1, 1) := by decide +kernel
theorem dX8_wins_6 : decode cX8_wins 6 = .ok (.invokevirtual 149, 3) := by decide +kernel
theorem dX8_wins_9 : decode cX8_wins 9 = .ok (.ifCond .eq 12, 3) := by decide +kernel
theorem dX8_wins_12 : decode cX8_wins 12 = .ok (.iload_n 2, 1) := by decide +kernel
theorem dX8_wins_13 : decode cX8_wins 13 = .ok (.iconst 0, 1) := by decide +kernel
theorem dX8_wins_14 : decode cX8_wins 14 = .ok (.iconst 1, 1) := by decide +kernel
theorem dX8_wins_15 : decode cX8_wins 15 = .ok (.invokestatic 120, 3) := by decide +kernel
theorem dX8_wins_18 : decode cX8_wins 18 = .ok (.ifCond .ne 6, 3) := by decide +kernel
theorem dX8_wins_21 : decode cX8_wins 21 = .ok (.bipush (-2), 2) := by decide +kernel
theorem dX8_wins_23 : decode cX8_wins 23 = .ok (.ireturn, 1) := by decide +kernel
theorem dX8_wins_24 : decode cX8_wins 24 = .ok (.iload_n 2, 1) := by decide +kernel
theorem dX8_wins_25 : decode cX8_wins 25 = .ok (.ifCond .ne 14, 3) := by decide +kernel
theorem dX8_wins_28 : decode cX8_wins 28 = .ok (.aload_n 0, 1) := by decide +kernel
theorem dX8_wins_29 : decode cX8_wins 29 = .ok (.getfield 73, 3) := by decide +kernel
theorem dX8_wins_32 : decode cX8_wins 32 = .ok (.iload_n 1, 1) := by decide +kernel
theorem dX8_wins_33 : decode cX8_wins 33 = .ok (.invokevirtual 227, 3) := by decide +kernel
theorem dX8_wins_36 : decode cX8_wins 36 = .ok (.goto 11, 3) := by decide +kernel
theorem dX8_wins_39 : decode cX8_wins 39 = .ok (.aload_n 0, 1) := by decide +kernel
theorem dX8_wins_40 : decode cX8_wins 40 = .ok (.getfield 73, 3) := by decide +kernel
theorem dX8_wins_43 : decode cX8_wins 43 = .ok (.iload_n 1, 1) := by decide +kernel
theorem dX8_wins_44 : decode cX8_wins 44 = .ok (.invokevirtual 230, 3) := by decide +kernel
theorem dX8_wins_47 : decode cX8_wins 47 = .ok (.ireturn, 1) := by decide +kernel
theorem dX8_hedge_0 : decode cX8_hedge 0 = .ok (.aload_n 0, 1) := by decide +kernel
theorem dX8_hedge_1 : decode cX8_hedge 1 = .ok (.invokevirtual 143, 3) := by decide +kernel
theorem dX8_hedge_4 : decode cX8_hedge 4 = .ok (.aload_n 0, 1) := by decide +kernel
theorem dX8_hedge_5 : decode cX8_hedge 5 = .ok (.iload_n 1, 1) := by decide +kernel
theorem dX8_hedge_6 : decode cX8_hedge 6 = .ok (.invokevirtual 159, 3) := by decide +kernel
theorem dX8_hedge_9 : decode cX8_hedge 9 = .ok (.ifCond .ne 6, 3) := by decide +kernel
theorem dX8_hedge_12 : decode cX8_hedge 12 = .ok (.bipush (-2), 2) := by decide +kernel
theorem dX8_hedge_14 : decode cX8_hedge 14 = .ok (.ireturn, 1) := by decide +kernel
theorem dX8_hedge_15 : decode cX8_hedge 15 = .ok (.aload_n 0, 1) := by decide +kernel
theorem dX8_hedge_16 : decode cX8_hedge 16 = .ok (.getfield 73, 3) := by decide +kernel
theorem dX8_hedge_19 : decode cX8_hedge 19 = .ok (.iload_n 1, 1) := by decide +kernel
theorem dX8_hedge_20 : decode cX8_hedge 20 = .ok (.invokevirtual 233, 3) := by decide +kernel
theorem dX8_hedge_23 : decode cX8_hedge 23 = .ok (.ireturn, 1) := by decide +kernel
theorem dX8_worth_0 : decode cX8_worth 0 = .ok (.iload_n 1, 1) := by decide +kernel
theorem dX8_worth_1 : decode cX8_worth 1 = .ok (.invokestatic 236, 3) := by decide +kernel
theorem dX8_worth_4 : decode cX8_worth 4 = .ok (.ifCond .eq 15, 3) := by decide +kernel
theorem dX8_worth_7 : decode cX8_worth 7 = .ok (.iload_n 2, 1) := by decide +kernel
theorem dX8_worth_8 : decode cX8_worth 8 = .ok (.invokestatic 236, 3) := by decide +kernel
theorem dX8_worth_11 : decode cX8_worth 11 = .ok (.ifCond .eq 8, 3) := by decide +kernel
theorem dX8_worth_14 : decode cX8_worth 14 = .ok (.iload_n 1, 1) := by decide +kernel
theorem dX8_worth_15 : decode cX8_worth 15 = .ok (.iload_n 2, 1) := by decide +kernel
theorem dX8_worth_16 : decode cX8_worth 16 = .ok (.if_icmp .ne 7, 3) := by decide +kernel
theorem dX8_worth_19 : decode cX8_worth 19 = .ok (.ldc2_w 239, 3) := by decide +kernel
theorem dX8_worth_22 : decode cX8_worth 22 = .ok (.lreturn, 1) := by decide +kernel
theorem dX8_worth_23 : decode cX8_worth 23 = .ok (.iload_n 3, 1) := by decide +kernel
theorem dX8_worth_24 : decode cX8_worth 24 = .ok (.iconst 0, 1) := by decide +kernel
theorem dX8_worth_25 : decode cX8_worth 25 = .ok (.iconst 1, 1) := by decide +kernel
theorem dX8_worth_26 : decode cX8_worth 26 = .ok (.invokestatic 120, 3) := by decide +kernel
theorem dX8_worth_29 : decode cX8_worth 29 = .ok (.ifCond .ne 7, 3) := by decide +kernel
theorem dX8_worth_32 : decode cX8_worth 32 = .ok (.ldc2_w 239, 3) := by decide +kernel
theorem dX8_worth_35 : decode cX8_worth 35 = .ok (.lreturn, 1) := by decide +kernel
theorem dX8_worth_36 : decode cX8_worth 36 = .ok (.aload_n 0, 1) := by decide +kernel
theorem dX8_worth_37 : decode cX8_worth 37 = .ok (.getfield 78, 3) := by decide +kernel
theorem dX8_worth_40 : decode cX8_worth 40 = .ok (.aload_n 0, 1) := by decide +kernel
theorem dX8_worth_41 : decode cX8_worth 41 = .ok (.getfield 23, 3) := by decide +kernel
theorem dX8_worth_44 : decode cX8_worth 44 = .ok (.invokevirtual 241, 3) := by decide +kernel
theorem dX8_worth_47 : decode cX8_worth 47 = .ok (.pop, 1) := by decide +kernel
theorem dX8_worth_48 : decode cX8_worth 48 = .ok (.aload_n 0, 1) := by decide +kernel
theorem dX8_worth_49 : decode cX8_worth 49 = .ok (.getfield 78, 3) := by decide +kernel
theorem dX8_worth_52 : decode cX8_worth 52 = .ok (.iload_n 1, 1) := by decide +kernel
theorem dX8_worth_53 : decode cX8_worth 53 = .ok (.iload_n 2, 1) := by decide +kernel
theorem dX8_worth_54 : decode cX8_worth 54 = .ok (.invokevirtual 245, 3) := by decide +kernel
theorem dX8_worth_57 : decode cX8_worth 57 = .ok (.ifCond .ne 7, 3) := by decide +kernel
theorem dX8_worth_60 : decode cX8_worth 60 = .ok (.ldc2_w 248, 3) := by decide +kernel
theorem dX8_worth_63 : decode cX8_worth 63 = .ok (.lreturn, 1) := by decide +kernel
theorem dX8_worth_64 : decode cX8_worth 64 = .ok (.iload_n 3, 1) := by decide +kernel
theorem dX8_worth_65 : decode cX8_worth 65 = .ok (.ifCond .ne 15, 3) := by decide +kernel
theorem dX8_worth_68 : decode cX8_worth 68 = .ok (.aload_n 0, 1) := by decide +kernel
theorem dX8_worth_69 : decode cX8_worth 69 = .ok (.getfield 78, 3) := by decide +kernel
theorem dX8_worth_72 : decode cX8_worth 72 = .ok (.iload_n 1, 1) := by decide +kernel
theorem dX8_worth_73 : decode cX8_worth 73 = .ok (.iload_n 2, 1) := by decide +kernel
theorem dX8_worth_74 : decode cX8_worth 74 = .ok (.invokevirtual 250, 3) := by decide +kernel
theorem dX8_worth_77 : decode cX8_worth 77 = .ok (.goto 12, 3) := by decide +kernel
theorem dX8_worth_80 : decode cX8_worth 80 = .ok (.aload_n 0, 1) := by decide +kernel
theorem dX8_worth_81 : decode cX8_worth 81 = .ok (.getfield 78, 3) := by decide +kernel
theorem dX8_worth_84 : decode cX8_worth 84 = .ok (.iload_n 2, 1) := by decide +kernel
theorem dX8_worth_85 : decode cX8_worth 85 = .ok (.iload_n 1, 1) := by decide +kernel
theorem dX8_worth_86 : decode cX8_worth 86 = .ok (.invokevirtual 250, 3) := by decide +kernel
theorem dX8_worth_89 : decode cX8_worth 89 = .ok (.lreturn, 1) := by decide +kernel
theorem dX8_clash_0 : decode cX8_clash 0 = .ok (.aload_n 0, 1) := by decide +kernel
theorem dX8_clash_1 : decode cX8_clash 1 = .ok (.getfield 78, 3) := by decide +kernel
theorem dX8_clash_4 : decode cX8_clash 4 = .ok (.aload_n 0, 1) := by decide +kernel
theorem dX8_clash_5 : decode cX8_clash 5 = .ok (.getfield 23, 3) := by decide +kernel
theorem dX8_clash_8 : decode cX8_clash 8 = .ok (.invokevirtual 241, 3) := by decide +kernel
theorem dX8_clash_11 : decode cX8_clash 11 = .ok (.ireturn, 1) := by decide +kernel
theorem dX8_drop_0 : decode cX8_drop 0 = .ok (.aload_n 0, 1) := by decide +kernel
theorem dX8_drop_1 : decode cX8_drop 1 = .ok (.getfield 78, 3) := by decide +kernel
theorem dX8_drop_4 : decode cX8_drop 4 = .ok (.aload_n 0, 1) := by decide +kernel
theorem dX8_drop_5 : decode cX8_drop 5 = .ok (.getfield 23, 3) := by decide +kernel
theorem dX8_drop_8 : decode cX8_drop 8 = .ok (.invokevirtual 254, 3) := by decide +kernel
theorem dX8_drop_11 : decode cX8_drop 11 = .ok (.ireturn, 1) := by decide +kernel
theorem dX8_rate_0 : decode cX8_rate 0 = .ok (.iload_n 1, 1) := by decide +kernel
theorem dX8_rate_1 : decode cX8_rate 1 = .ok (.invokestatic 257, 3) := by decide +kernel
theorem dX8_rate_4 : decode cX8_rate 4 = .ok (.ifCond .eq 15, 3) := by decide +kernel
theorem dX8_rate_7 : decode cX8_rate 7 = .ok (.iload_n 2, 1) := by decide +kernel
theorem dX8_rate_8 : decode cX8_rate 8 = .ok (.invokestatic 257, 3) := by decide +kernel
theorem dX8_rate_11 : decode cX8_rate 11 = .ok (.ifCond .eq 8, 3) := by decide +kernel
theorem dX8_rate_14 : decode cX8_rate 14 = .ok (.iload_n 1, 1) := by decide +kernel
theorem dX8_rate_15 : decode cX8_rate 15 = .ok (.iload_n 2, 1) := by decide +kernel
theorem dX8_rate_16 : decode cX8_rate 16 = .ok (.if_icmp .ne 6, 3) := by decide +kernel
theorem dX8_rate_19 : decode cX8_rate 19 = .ok (.bipush (-2), 2) := by decide +kernel
theorem dX8_rate_21 : decode cX8_rate 21 = .ok (.ireturn, 1) := by decide +kernel
theorem dX8_rate_22 : decode cX8_rate 22 = .ok (.iload_n 3, 1) := by decide +kernel
theorem dX8_rate_23 : decode cX8_rate 23 = .ok (.iconst 1, 1) := by decide +kernel
theorem dX8_rate_24 : decode cX8_rate 24 = .ok (.bipush 9, 2) := by decide +kernel
theorem dX8_rate_26 : decode cX8_rate 26 = .ok (.invokestatic 120, 3) := by decide +kernel
theorem dX8_rate_29 : decode cX8_rate 29 = .ok (.ifCond .eq 14, 3) := by decide +kernel
theorem dX8_rate_32 : decode cX8_rate 32 = .ok (.iload 4, 2) := by decide +kernel
theorem dX8_rate_34 : decode cX8_rate 34 = .ok (.iconst 1, 1) := by decide +kernel
theorem dX8_rate_35 : decode cX8_rate 35 = .ok (.bipush 9, 2) := by decide +kernel
theorem dX8_rate_37 : decode cX8_rate 37 = .ok (.invokestatic 120, 3) := by decide +kernel
theorem dX8_rate_40 : decode cX8_rate 40 = .ok (.ifCond .ne 6, 3) := by decide +kernel
theorem dX8_rate_43 : decode cX8_rate 43 = .ok (.bipush (-2), 2) := by decide +kernel
theorem dX8_rate_45 : decode cX8_rate 45 = .ok (.ireturn, 1) := by decide +kernel
theorem dX8_rate_46 : decode cX8_rate 46 = .ok (.aload_n 0, 1) := by decide +kernel
theorem dX8_rate_47 : decode cX8_rate 47 = .ok (.getfield 85, 3) := by decide +kernel
theorem dX8_rate_50 : decode cX8_rate 50 = .ok (.iload_n 1, 1) := by decide +kernel
theorem dX8_rate_51 : decode cX8_rate 51 = .ok (.iload_n 2, 1) := by decide +kernel
theorem dX8_rate_52 : decode cX8_rate 52 = .ok (.iload_n 3, 1) := by decide +kernel
theorem dX8_rate_53 : decode cX8_rate 53 = .ok (.iload 4, 2) := by decide +kernel
theorem dX8_rate_55 : decode cX8_rate 55 = .ok (.invokevirtual 260, 3) := by decide +kernel
theorem dX8_rate_58 : decode cX8_rate 58 = .ok (.ireturn, 1) := by decide +kernel
theorem dX8_round_0 : decode cX8_round 0 = .ok (.iload_n 1, 1) := by decide +kernel
theorem dX8_round_1 : decode cX8_round 1 = .ok (.bipush (-2), 2) := by decide +kernel
theorem dX8_round_3 : decode cX8_round 3 = .ok (.iconst 3, 1) := by decide +kernel
theorem dX8_round_4 : decode cX8_round 4 = .ok (.invokestatic 120, 3) := by decide +kernel
theorem dX8_round_7 : decode cX8_round 7 = .ok (.ifCond .ne 6, 3) := by decide +kernel
theorem dX8_round_10 : decode cX8_round 10 = .ok (.bipush (-2), 2) := by decide +kernel
theorem dX8_round_12 : decode cX8_round 12 = .ok (.ireturn, 1) := by decide +kernel
theorem dX8_round_13 : decode cX8_round 13 = .ok (.aload_n 0, 1) := by decide +kernel
theorem dX8_round_14 : decode cX8_round 14 = .ok (.getfield 85, 3) := by decide +kernel
theorem dX8_round_17 : decode cX8_round 17 = .ok (.invokevirtual 264, 3) := by decide +kernel
theorem dX8_round_20 : decode cX8_round 20 = .ok (.iload_n 1, 1) := by decide +kernel
theorem dX8_round_21 : decode cX8_round 21 = .ok (.bipush (-2), 2) := by decide +kernel
theorem dX8_round_23 : decode cX8_round 23 = .ok (.if_icmp .ne 11, 3) := by decide +kernel
theorem dX8_round_26 : decode cX8_round 26 = .ok (.aload_n 0, 1) := by decide +kernel
theorem dX8_round_27 : decode cX8_round 27 = .ok (.getfield 85, 3) := by decide +kernel
theorem dX8_round_30 : decode cX8_round 30 = .ok (.getfield 267, 3) := by decide +kernel
theorem dX8_round_33 : decode cX8_round 33 = .ok (.ireturn, 1) := by decide +kernel
theorem dX8_round_34 : decode cX8_round 34 = .ok (.iload_n 1, 1) := by decide +kernel
theorem dX8_round_35 : decode cX8_round 35 = .ok (.iconst (-1), 1) := by decide +kernel
theorem dX8_round_36 : decode cX8_round 36 = .ok (.if_icmp .ne 11, 3) := by decide +kernel
theorem dX8_round_39 : decode cX8_round 39 = .ok (.aload_n 0, 1) := by decide +kernel
theorem dX8_round_40 : decode cX8_round 40 = .ok (.getfield 85, 3) := by decide +kernel
theorem dX8_round_43 : decode cX8_round 43 = .ok (.getfield 270, 3) := by decide +kernel
theorem dX8_round_46 : decode cX8_round 46 = .ok (.ireturn, 1) := by decide +kernel
theorem dX8_round_47 : decode cX8_round 47 = .ok (.aload_n 0, 1) := by decide +kernel
theorem dX8_round_48 : decode cX8_round 48 = .ok (.getfield 85, 3) := by decide +kernel
theorem dX8_round_51 : decode cX8_round 51 = .ok (.iload_n 1, 1) := by decide +kernel
theorem dX8_round_52 : decode cX8_round 52 = .ok (.invokevirtual 273, 3) := by decide +kernel
theorem dX8_round_55 : decode cX8_round 55 = .ok (.ireturn, 1) := by decide +kernel
theorem dX8_bill_0 : decode cX8_bill 0 = .ok (.iload_n 1, 1) := by decide +kernel
theorem dX8_bill_1 : decode cX8_bill 1 = .ok (.iconst 1, 1) := by decide +kernel
theorem dX8_bill_2 : decode cX8_bill 2 = .ok (.bipush 9, 2) := by decide +kernel
theorem dX8_bill_4 : decode cX8_bill 4 = .ok (.invokestatic 120, 3) := by decide +kernel
theorem dX8_bill_7 : decode cX8_bill 7 = .ok (.ifCond .eq 20, 3) := by decide +kernel
theorem dX8_bill_10 : decode cX8_bill 10 = .ok (.iload_n 2, 1) := by decide +kernel
theorem dX8_bill_11 : decode cX8_bill 11 = .ok (.invokestatic 152, 3) := by decide +kernel
theorem dX8_bill_14 : decode cX8_bill 14 = .ok (.ifCond .eq 13, 3) := by decide +kernel
theorem dX8_bill_17 : decode cX8_bill 17 = .ok (.iload_n 3, 1) := by decide +kernel
theorem dX8_bill_18 : decode cX8_bill 18 = .ok (.iconst 1, 1) := by decide +kernel
theorem dX8_bill_19 : decode cX8_bill 19 = .ok (.bipush 99, 2) := by decide +kernel
theorem dX8_bill_21 : decode cX8_bill 21 = .ok (.invokestatic 120, 3) := by decide +kernel
theorem dX8_bill_24 : decode cX8_bill 24 = .ok (.ifCond .ne 6, 3) := by decide +kernel
theorem dX8_bill_27 : decode cX8_bill 27 = .ok (.bipush (-2), 2) := by decide +kernel
theorem dX8_bill_29 : decode cX8_bill 29 = .ok (.ireturn, 1) := by decide +kernel
theorem dX8_bill_30 : decode cX8_bill 30 = .ok (.aload_n 0, 1) := by decide +kernel
theorem dX8_bill_31 : decode cX8_bill 31 = .ok (.getfield 36, 3) := by decide +kernel
theorem dX8_bill_34 : decode cX8_bill 34 = .ok (.invokevirtual 177, 3) := by decide +kernel
theorem dX8_bill_37 : decode cX8_bill 37 = .ok (.ifCond .eq 6, 3) := by decide +kernel
theorem dX8_bill_40 : decode cX8_bill 40 = .ok (.bipush (-4), 2) := by decide +kernel
theorem dX8_bill_42 : decode cX8_bill 42 = .ok (.ireturn, 1) := by decide +kernel
theorem dX8_bill_43 : decode cX8_bill 43 = .ok (.aload_n 0, 1) := by decide +kernel
theorem dX8_bill_44 : decode cX8_bill 44 = .ok (.getfield 36, 3) := by decide +kernel
theorem dX8_bill_47 : decode cX8_bill 47 = .ok (.invokevirtual 178, 3) := by decide +kernel
theorem dX8_bill_50 : decode cX8_bill 50 = .ok (.astore 4, 2) := by decide +kernel
theorem dX8_bill_52 : decode cX8_bill 52 = .ok (.aload 4, 2) := by decide +kernel
theorem dX8_bill_54 : decode cX8_bill 54 = .ok (.iconst 0, 1) := by decide +kernel
theorem dX8_bill_55 : decode cX8_bill 55 = .ok (.iload_n 1, 1) := by decide +kernel
theorem dX8_bill_56 : decode cX8_bill 56 = .ok (.iastore, 1) := by decide +kernel
theorem dX8_bill_57 : decode cX8_bill 57 = .ok (.aload 4, 2) := by decide +kernel
theorem dX8_bill_59 : decode cX8_bill 59 = .ok (.iconst 1, 1) := by decide +kernel
theorem dX8_bill_60 : decode cX8_bill 60 = .ok (.iload_n 2, 1) := by decide +kernel
theorem dX8_bill_61 : decode cX8_bill 61 = .ok (.iastore, 1) := by decide +kernel
theorem dX8_bill_62 : decode cX8_bill 62 = .ok (.aload 4, 2) := by decide +kernel
theorem dX8_bill_64 : decode cX8_bill 64 = .ok (.iconst 2, 1) := by decide +kernel
theorem dX8_bill_65 : decode cX8_bill 65 = .ok (.iload_n 3, 1) := by decide +kernel
theorem dX8_bill_66 : decode cX8_bill 66 = .ok (.iastore, 1) := by decide +kernel
theorem dX8_bill_67 : decode cX8_bill 67 = .ok (.aload_n 0, 1) := by decide +kernel
theorem dX8_bill_68 : decode cX8_bill 68 = .ok (.getfield 36, 3) := by decide +kernel
theorem dX8_bill_71 : decode cX8_bill 71 = .ok (.getfield 182, 3) := by decide +kernel
theorem dX8_bill_74 : decode cX8_bill 74 = .ok (.ireturn, 1) := by decide +kernel
theorem dX8_years_0 : decode cX8_years 0 = .ok (.aload_n 0, 1) := by decide +kernel
theorem dX8_years_1 : decode cX8_years 1 = .ok (.invokevirtual 143, 3) := by decide +kernel
theorem dX8_years_4 : decode cX8_years 4 = .ok (.aload_n 0, 1) := by decide +kernel
theorem dX8_years_5 : decode cX8_years 5 = .ok (.aload_n 0, 1) := by decide +kernel
theorem dX8_years_6 : decode cX8_years 6 = .ok (.getfield 96, 3) := by decide +kernel
theorem dX8_years_9 : decode cX8_years 9 = .ok (.invokevirtual 183, 3) := by decide +kernel
theorem dX8_years_12 : decode cX8_years 12 = .ok (.astore_n 1, 1) := by decide +kernel
theorem dX8_years_13 : decode cX8_years 13 = .ok (.sipush 1023, 3) := by decide +kernel
theorem dX8_years_16 : decode cX8_years 16 = .ok (.istore_n 2, 1) := by decide +kernel
theorem dX8_years_17 : decode cX8_years 17 = .ok (.iconst 0, 1) := by decide +kernel
theorem dX8_years_18 : decode cX8_years 18 = .ok (.istore_n 3, 1) := by decide +kernel
theorem dX8_years_19 : decode cX8_years 19 = .ok (.iload_n 3, 1) := by decide +kernel
theorem dX8_years_20 : decode cX8_years 20 = .ok (.aload_n 0, 1) := by decide +kernel
theorem dX8_years_21 : decode cX8_years 21 = .ok (.getfield 36, 3) := by decide +kernel
theorem dX8_years_24 : decode cX8_years 24 = .ok (.getfield 182, 3) := by decide +kernel
theorem dX8_years_27 : decode cX8_years 27 = .ok (.if_icmp .ge 71, 3) := by decide +kernel
theorem dX8_years_30 : decode cX8_years 30 = .ok (.aload_n 0, 1) := by decide +kernel
theorem dX8_years_31 : decode cX8_years 31 = .ok (.getfield 36, 3) := by decide +kernel
theorem dX8_years_34 : decode cX8_years 34 = .ok (.getfield 207, 3) := by decide +kernel
theorem dX8_years_37 : decode cX8_years 37 = .ok (.iload_n 3, 1) := by decide +kernel
theorem dX8_years_38 : decode cX8_years 38 = .ok (.aaload, 1) := by decide +kernel
theorem dX8_years_39 : decode cX8_years 39 = .ok (.astore 4, 2) := by decide +kernel
theorem dX8_years_41 : decode cX8_years 41 = .ok (.iconst 0, 1) := by decide +kernel
theorem dX8_years_42 : decode cX8_years 42 = .ok (.istore 5, 2) := by decide +kernel
theorem dX8_years_44 : decode cX8_years 44 = .ok (.iload 5, 2) := by decide +kernel
theorem dX8_years_46 : decode cX8_years 46 = .ok (.bipush 10, 2) := by decide +kernel
theorem dX8_years_48 : decode cX8_years 48 = .ok (.if_icmp .ge 44, 3) := by decide +kernel
theorem dX8_years_51 : decode cX8_years 51 = .ok (.aload 4, 2) := by decide +kernel
theorem dX8_years_53 : decode cX8_years 53 = .ok (.iconst 0, 1) := by decide +kernel
theorem dX8_years_54 : decode cX8_years 54 = .ok (.iaload, 1) := by decide +kernel
theorem dX8_years_55 : decode cX8_years 55 = .ok (.aload_n 1, 1) := by decide +kernel
theorem dX8_years_56 : decode cX8_years 56 = .ok (.iload 5, 2) := by decide +kernel
theorem dX8_years_58 : decode cX8_years 58 = .ok (.aload 4, 2) := by decide +kernel
theorem dX8_years_60 : decode cX8_years 60 = .ok (.iconst 1, 1) := by decide +kernel
theorem dX8_years_61 : decode cX8_years 61 = .ok (.iaload, 1) := by decide +kernel
theorem dX8_years_62 : decode cX8_years 62 = .ok (.invokevirtual 191, 3) := by decide +kernel
theorem dX8_years_65 : decode cX8_years 65 = .ok (.imul, 1) := by decide +kernel
theorem dX8_years_66 : decode cX8_years 66 = .ok (.istore 6, 2) := by decide +kernel
theorem dX8_years_68 : decode cX8_years 68 = .ok (.iload 6, 2) := by decide +kernel
theorem dX8_years_70 : decode cX8_years 70 = .ok (.aload 4, 2) := by decide +kernel
theorem dX8_years_72 : decode cX8_years 72 = .ok (.iconst 2, 1) := by decide +kernel
theorem dX8_years_73 : decode cX8_years 73 = .ok (.iaload, 1) := by decide +kernel
theorem dX8_years_74 : decode cX8_years 74 = .ok (.if_icmp .eq 12, 3) := by decide +kernel
theorem dX8_years_77 : decode cX8_years 77 = .ok (.iload_n 2, 1) := by decide +kernel
theorem dX8_years_78 : decode cX8_years 78 = .ok (.iconst 1, 1) := by decide +kernel
theorem dX8_years_79 : decode cX8_years 79 = .ok (.iload 5, 2) := by decide +kernel
theorem dX8_years_81 : decode cX8_years 81 = .ok (.ishl, 1) := by decide +kernel
theorem dX8_years_82 : decode cX8_years 82 = .ok (.iconst (-1), 1) := by decide +kernel
theorem dX8_years_83 : decode cX8_years 83 = .ok (.ixor, 1) := by decide +kernel
theorem dX8_years_84 : decode cX8_years 84 = .ok (.iand, 1) := by decide +kernel
theorem dX8_years_85 : decode cX8_years 85 = .ok (.istore_n 2, 1) := by decide +kernel
theorem dX8_years_86 : decode cX8_years 86 = .ok (.iinc 5 1, 3) := by decide +kernel
theorem dX8_years_89 : decode cX8_years 89 = .ok (.goto (-45), 3) := by decide +kernel
theorem dX8_years_92 : decode cX8_years 92 = .ok (.iinc 3 1, 3) := by decide +kernel
theorem dX8_years_95 : decode cX8_years 95 = .ok (.goto (-76), 3) := by decide +kernel
theorem dX8_years_98 : decode cX8_years 98 = .ok (.iload_n 2, 1) := by decide +kernel
theorem dX8_years_99 : decode cX8_years 99 = .ok (.ireturn, 1) := by decide +kernel
theorem dX8_sheet_0 : decode cX8_sheet 0 = .ok (.iload_n 1, 1) := by decide +kernel
theorem dX8_sheet_1 : decode cX8_sheet 1 = .ok (.invokestatic 276, 3) := by decide +kernel
theorem dX8_sheet_4 : decode cX8_sheet 4 = .ok (.ifCond .eq 16, 3) := by decide +kernel
theorem dX8_sheet_7 : decode cX8_sheet 7 = .ok (.iload_n 2, 1) := by decide +kernel
theorem dX8_sheet_8 : decode cX8_sheet 8 = .ok (.invokestatic 279, 3) := by decide +kernel
theorem dX8_sheet_11 : decode cX8_sheet 11 = .ok (.ifCond .eq 9, 3) := by decide +kernel
theorem dX8_sheet_14 : decode cX8_sheet 14 = .ok (.iload_n 3, 1) := by decide +kernel
theorem dX8_sheet_15 : decode cX8_sheet 15 = .ok (.bipush 60, 2) := by decide +kernel
theorem dX8_sheet_17 : decode cX8_sheet 17 = .ok (.if_icmp .le 6, 3) := by decide +kernel
theorem dX8_sheet_20 : decode cX8_sheet 20 = .ok (.bipush (-2), 2) := by decide +kernel
theorem dX8_sheet_22 : decode cX8_sheet 22 = .ok (.ireturn, 1) := by decide +kernel
theorem dX8_sheet_23 : decode cX8_sheet 23 = .ok (.iload_n 3, 1) := by decide +kernel
theorem dX8_sheet_24 : decode cX8_sheet 24 = .ok (.ifCond .ge 9, 3) := by decide +kernel
theorem dX8_sheet_27 : decode cX8_sheet 27 = .ok (.aload_n 0, 1) := by decide +kernel
theorem dX8_sheet_28 : decode cX8_sheet 28 = .ok (.iconst 5, 1) := by decide +kernel
theorem dX8_sheet_29 : decode cX8_sheet 29 = .ok (.invokevirtual 282, 3) := by decide +kernel
theorem dX8_sheet_32 : decode cX8_sheet 32 = .ok (.ireturn, 1) := by decide +kernel
theorem dX8_sheet_33 : decode cX8_sheet 33 = .ok (.aload_n 0, 1) := by decide +kernel
theorem dX8_sheet_34 : decode cX8_sheet 34 = .ok (.getfield 92, 3) := by decide +kernel
theorem dX8_sheet_37 : decode cX8_sheet 37 = .ok (.iload_n 1, 1) := by decide +kernel
theorem dX8_sheet_38 : decode cX8_sheet 38 = .ok (.iload_n 2, 1) := by decide +kernel
theorem dX8_sheet_39 : decode cX8_sheet 39 = .ok (.iload_n 3, 1) := by decide +kernel
theorem dX8_sheet_40 : decode cX8_sheet 40 = .ok (.invokevirtual 285, 3) := by decide +kernel
theorem dX8_sheet_43 : decode cX8_sheet 43 = .ok (.iload_n 3, 1) := by decide +kernel
theorem dX8_sheet_44 : decode cX8_sheet 44 = .ok (.ireturn, 1) := by decide +kernel
theorem dX8_lose_0 : decode cX8_lose 0 = .ok (.iload_n 1, 1) := by decide +kernel
theorem dX8_lose_1 : decode cX8_lose 1 = .ok (.invokestatic 276, 3) := by decide +kernel
theorem dX8_lose_4 : decode cX8_lose 4 = .ok (.ifCond .ne 6, 3) := by decide +kernel
theorem dX8_lose_7 : decode cX8_lose 7 = .ok (.bipush (-2), 2) := by decide +kernel
theorem dX8_lose_9 : decode cX8_lose 9 = .ok (.ireturn, 1) := by decide +kernel
theorem dX8_lose_10 : decode cX8_lose 10 = .ok (.aload_n 0, 1) := by decide +kernel
theorem dX8_lose_11 : decode cX8_lose 11 = .ok (.getfield 92, 3) := by decide +kernel
theorem dX8_lose_14 : decode cX8_lose 14 = .ok (.iload_n 1, 1) := by decide +kernel
theorem dX8_lose_15 : decode cX8_lose 15 = .ok (.invokevirtual 289, 3) := by decide +kernel
theorem dX8_lose_18 : decode cX8_lose 18 = .ok (.ifCond .eq 9, 3) := by decide +kernel
theorem dX8_lose_21 : decode cX8_lose 21 = .ok (.aload_n 0, 1) := by decide +kernel
theorem dX8_lose_22 : decode cX8_lose 22 = .ok (.iconst 1, 1) := by decide +kernel
theorem dX8_lose_23 : decode cX8_lose 23 = .ok (.invokevirtual 282, 3) := by decide +kernel
theorem dX8_lose_26 : decode cX8_lose 26 = .ok (.ireturn, 1) := by decide +kernel
theorem dX8_lose_27 : decode cX8_lose 27 = .ok (.aload_n 0, 1) := by decide +kernel
theorem dX8_lose_28 : decode cX8_lose 28 = .ok (.getfield 92, 3) := by decide +kernel
theorem dX8_lose_31 : decode cX8_lose 31 = .ok (.getfield 292, 3) := by decide +kernel
theorem dX8_lose_34 : decode cX8_lose 34 = .ok (.iload_n 1, 1) := by decide +kernel
theorem dX8_lose_35 : decode cX8_lose 35 = .ok (.iaload, 1) := by decide +kernel
theorem dX8_lose_36 : decode cX8_lose 36 = .ok (.istore_n 2, 1) := by decide +kernel
theorem dX8_lose_37 : decode cX8_lose 37 = .ok (.aload_n 0, 1) := by decide +kernel
theorem dX8_lose_38 : decode cX8_lose 38 = .ok (.getfield 92, 3) := by decide +kernel
theorem dX8_lose_41 : decode cX8_lose 41 = .ok (.iload_n 1, 1) := by decide +kernel
theorem dX8_lose_42 : decode cX8_lose 42 = .ok (.invokevirtual 295, 3) := by decide +kernel
theorem dX8_lose_45 : decode cX8_lose 45 = .ok (.iload_n 2, 1) := by decide +kernel
theorem dX8_lose_46 : decode cX8_lose 46 = .ok (.ireturn, 1) := by decide +kernel
theorem dX8_lay_0 : decode cX8_lay 0 = .ok (.iload_n 1, 1) := by decide +kernel
theorem dX8_lay_1 : decode cX8_lay 1 = .ok (.invokestatic 276, 3) := by decide +kernel
theorem dX8_lay_4 : decode cX8_lay 4 = .ok (.ifCond .eq 10, 3) := by decide +kernel
theorem dX8_lay_7 : decode cX8_lay 7 = .ok (.iload_n 2, 1) := by decide +kernel
theorem dX8_lay_8 : decode cX8_lay 8 = .ok (.invokestatic 279, 3) := by decide +kernel
theorem dX8_lay_11 : decode cX8_lay 11 = .ok (.ifCond .ne 6, 3) := by decide +kernel
theorem dX8_lay_14 : decode cX8_lay 14 = .ok (.bipush (-2), 2) := by decide +kernel
theorem dX8_lay_16 : decode cX8_lay 16 = .ok (.ireturn, 1) := by decide +kernel
theorem dX8_lay_17 : decode cX8_lay 17 = .ok (.aload_n 0, 1) := by decide +kernel
theorem dX8_lay_18 : decode cX8_lay 18 = .ok (.getfield 92, 3) := by decide +kernel
theorem dX8_lay_21 : decode cX8_lay 21 = .ok (.iload_n 1, 1) := by decide +kernel
theorem dX8_lay_22 : decode cX8_lay 22 = .ok (.iload_n 2, 1) := by decide +kernel
theorem dX8_lay_23 : decode cX8_lay 23 = .ok (.iload_n 3, 1) := by decide +kernel
theorem dX8_lay_24 : decode cX8_lay 24 = .ok (.invokevirtual 298, 3) := by decide +kernel
theorem dX8_lay_27 : decode cX8_lay 27 = .ok (.istore 5, 2) := by decide +kernel
theorem dX8_lay_29 : decode cX8_lay 29 = .ok (.iload 5, 2) := by decide +kernel
theorem dX8_lay_31 : decode cX8_lay 31 = .ok (.ifCond .eq 10, 3) := by decide +kernel
theorem dX8_lay_34 : decode cX8_lay 34 = .ok (.aload_n 0, 1) := by decide +kernel
theorem dX8_lay_35 : decode cX8_lay 35 = .ok (.iload 5, 2) := by decide +kernel
theorem dX8_lay_37 : decode cX8_lay 37 = .ok (.invokevirtual 282, 3) := by decide +kernel
theorem dX8_lay_40 : decode cX8_lay 40 = .ok (.ireturn, 1) := by decide +kernel
theorem dX8_lay_41 : decode cX8_lay 41 = .ok (.aload_n 0, 1) := by decide +kernel
theorem dX8_lay_42 : decode cX8_lay 42 = .ok (.getfield 92, 3) := by decide +kernel
theorem dX8_lay_45 : decode cX8_lay 45 = .ok (.iload_n 1, 1) := by decide +kernel
theorem dX8_lay_46 : decode cX8_lay 46 = .ok (.iload_n 3, 1) := by decide +kernel
theorem dX8_lay_47 : decode cX8_lay 47 = .ok (.iload 4, 2) := by decide +kernel
theorem dX8_lay_49 : decode cX8_lay 49 = .ok (.invokevirtual 301, 3) := by decide +kernel
theorem dX8_lay_52 : decode cX8_lay 52 = .ok (.iconst 1, 1) := by decide +kernel
theorem dX8_lay_53 : decode cX8_lay 53 = .ok (.ireturn, 1) := by decide +kernel
theorem dX8_get_0 : decode cX8_get 0 = .ok (.iload_n 1, 1) := by decide +kernel
theorem dX8_get_1 : decode cX8_get 1 = .ok (.invokestatic 276, 3) := by decide +kernel
theorem dX8_get_4 : decode cX8_get 4 = .ok (.ifCond .eq 10, 3) := by decide +kernel
theorem dX8_get_7 : decode cX8_get 7 = .ok (.iload_n 2, 1) := by decide +kernel
theorem dX8_get_8 : decode cX8_get 8 = .ok (.invokestatic 279, 3) := by decide +kernel
theorem dX8_get_11 : decode cX8_get 11 = .ok (.ifCond .ne 7, 3) := by decide +kernel
theorem dX8_get_14 : decode cX8_get 14 = .ok (.ldc_w 304, 3) := by decide +kernel
theorem dX8_get_17 : decode cX8_get 17 = .ok (.ireturn, 1) := by decide +kernel
theorem dX8_get_18 : decode cX8_get 18 = .ok (.aload_n 0, 1) := by decide +kernel
theorem dX8_get_19 : decode cX8_get 19 = .ok (.getfield 92, 3) := by decide +kernel
theorem dX8_get_22 : decode cX8_get 22 = .ok (.iload_n 1, 1) := by decide +kernel
theorem dX8_get_23 : decode cX8_get 23 = .ok (.iload_n 2, 1) := by decide +kernel
theorem dX8_get_24 : decode cX8_get 24 = .ok (.iload_n 3, 1) := by decide +kernel
theorem dX8_get_25 : decode cX8_get 25 = .ok (.invokevirtual 298, 3) := by decide +kernel
theorem dX8_get_28 : decode cX8_get 28 = .ok (.istore 4, 2) := by decide +kernel
theorem dX8_get_30 : decode cX8_get 30 = .ok (.iload 4, 2) := by decide +kernel
theorem dX8_get_32 : decode cX8_get 32 = .ok (.ifCond .ne 15, 3) := by decide +kernel
theorem dX8_get_35 : decode cX8_get 35 = .ok (.aload_n 0, 1) := by decide +kernel
theorem dX8_get_36 : decode cX8_get 36 = .ok (.getfield 92, 3) := by decide +kernel
theorem dX8_get_39 : decode cX8_get 39 = .ok (.getfield 305, 3) := by decide +kernel
theorem dX8_get_42 : decode cX8_get 42 = .ok (.iload_n 1, 1) := by decide +kernel
theorem dX8_get_43 : decode cX8_get 43 = .ok (.aaload, 1) := by decide +kernel
theorem dX8_get_44 : decode cX8_get 44 = .ok (.iload_n 3, 1) := by decide +kernel
theorem dX8_get_45 : decode cX8_get 45 = .ok (.iaload, 1) := by decide +kernel
theorem dX8_get_46 : decode cX8_get 46 = .ok (.ireturn, 1) := by decide +kernel
theorem dX8_get_47 : decode cX8_get 47 = .ok (.aload_n 0, 1) := by decide +kernel
theorem dX8_get_48 : decode cX8_get 48 = .ok (.iload 4, 2) := by decide +kernel
theorem dX8_get_50 : decode cX8_get 50 = .ok (.invokevirtual 282, 3) := by decide +kernel
theorem dX8_get_53 : decode cX8_get 53 = .ok (.pop, 1) := by decide +kernel
theorem dX8_get_54 : decode cX8_get 54 = .ok (.ldc_w 304, 3) := by decide +kernel
theorem dX8_get_57 : decode cX8_get 57 = .ok (.ireturn, 1) := by decide +kernel
theorem dX8_copy_0 : decode cX8_copy 0 = .ok (.iload_n 1, 1) := by decide +kernel
theorem dX8_copy_1 : decode cX8_copy 1 = .ok (.invokestatic 276, 3) := by decide +kernel
theorem dX8_copy_4 : decode cX8_copy 4 = .ok (.ifCond .eq 10, 3) := by decide +kernel
theorem dX8_copy_7 : decode cX8_copy 7 = .ok (.iload_n 3, 1) := by decide +kernel
theorem dX8_copy_8 : decode cX8_copy 8 = .ok (.invokestatic 276, 3) := by decide +kernel
theorem dX8_copy_11 : decode cX8_copy 11 = .ok (.ifCond .ne 6, 3) := by decide +kernel
theorem dX8_copy_14 : decode cX8_copy 14 = .ok (.bipush (-2), 2) := by decide +kernel
theorem dX8_copy_16 : decode cX8_copy 16 = .ok (.ireturn, 1) := by decide +kernel
theorem dX8_copy_17 : decode cX8_copy 17 = .ok (.aload_n 0, 1) := by decide +kernel
theorem dX8_copy_18 : decode cX8_copy 18 = .ok (.getfield 92, 3) := by decide +kernel
theorem dX8_copy_21 : decode cX8_copy 21 = .ok (.iload_n 1, 1) := by decide +kernel
theorem dX8_copy_22 : decode cX8_copy 22 = .ok (.invokevirtual 289, 3) := by decide +kernel
theorem dX8_copy_25 : decode cX8_copy 25 = .ok (.ifCond .ne 14, 3) := by decide +kernel
theorem dX8_copy_28 : decode cX8_copy 28 = .ok (.aload_n 0, 1) := by decide +kernel
theorem dX8_copy_29 : decode cX8_copy 29 = .ok (.getfield 92, 3) := by decide +kernel
theorem dX8_copy_32 : decode cX8_copy 32 = .ok (.iload_n 3, 1) := by decide +kernel
theorem dX8_copy_33 : decode cX8_copy 33 = .ok (.invokevirtual 289, 3) := by decide +kernel
theorem dX8_copy_36 : decode cX8_copy 36 = .ok (.ifCond .eq 9, 3) := by decide +kernel
theorem dX8_copy_39 : decode cX8_copy 39 = .ok (.aload_n 0, 1) := by decide +kernel
theorem dX8_copy_40 : decode cX8_copy 40 = .ok (.iconst 1, 1) := by decide +kernel
theorem dX8_copy_41 : decode cX8_copy 41 = .ok (.invokevirtual 282, 3) := by decide +kernel
theorem dX8_copy_44 : decode cX8_copy 44 = .ok (.ireturn, 1) := by decide +kernel
theorem dX8_copy_45 : decode cX8_copy 45 = .ok (.aload_n 0, 1) := by decide +kernel
theorem dX8_copy_46 : decode cX8_copy 46 = .ok (.getfield 92, 3) := by decide +kernel
theorem dX8_copy_49 : decode cX8_copy 49 = .ok (.getfield 308, 3) := by decide +kernel
theorem dX8_copy_52 : decode cX8_copy 52 = .ok (.iload_n 1, 1) := by decide +kernel
theorem dX8_copy_53 : decode cX8_copy 53 = .ok (.iaload, 1) := by decide +kernel
theorem dX8_copy_54 : decode cX8_copy 54 = .ok (.aload_n 0, 1) := by decide +kernel
theorem dX8_copy_55 : decode cX8_copy 55 = .ok (.getfield 92, 3) := by decide +kernel
theorem dX8_copy_58 : decode cX8_copy 58 = .ok (.getfield 308, 3) := by decide +kernel
theorem dX8_copy_61 : decode cX8_copy 61 = .ok (.iload_n 3, 1) := by decide +kernel
theorem dX8_copy_62 : decode cX8_copy 62 = .ok (.iaload, 1) := by decide +kernel
theorem dX8_copy_63 : decode cX8_copy 63 = .ok (.if_icmp .eq 9, 3) := by decide +kernel
theorem dX8_copy_66 : decode cX8_copy 66 = .ok (.aload_n 0, 1) := by decide +kernel
theorem dX8_copy_67 : decode cX8_copy 67 = .ok (.iconst 4, 1) := by decide +kernel
theorem dX8_copy_68 : decode cX8_copy 68 = .ok (.invokevirtual 282, 3) := by decide +kernel
theorem dX8_copy_71 : decode cX8_copy 71 = .ok (.ireturn, 1) := by decide +kernel
theorem dX8_copy_72 : decode cX8_copy 72 = .ok (.aload_n 0, 1) := by decide +kernel
theorem dX8_copy_73 : decode cX8_copy 73 = .ok (.getfield 92, 3) := by decide +kernel
theorem dX8_copy_76 : decode cX8_copy 76 = .ok (.iload_n 1, 1) := by decide +kernel
theorem dX8_copy_77 : decode cX8_copy 77 = .ok (.iload_n 2, 1) := by decide +kernel
theorem dX8_copy_78 : decode cX8_copy 78 = .ok (.iload 5, 2) := by decide +kernel
theorem dX8_copy_80 : decode cX8_copy 80 = .ok (.invokevirtual 311, 3) := by decide +kernel
theorem dX8_copy_83 : decode cX8_copy 83 = .ok (.ifCond .eq 18, 3) := by decide +kernel
theorem dX8_copy_86 : decode cX8_copy 86 = .ok (.aload_n 0, 1) := by decide +kernel
theorem dX8_copy_87 : decode cX8_copy 87 = .ok (.getfield 92, 3) := by decide +kernel
theorem dX8_copy_90 : decode cX8_copy 90 = .ok (.iload_n 3, 1) := by decide +kernel
theorem dX8_copy_91 : decode cX8_copy 91 = .ok (.iload 4, 2) := by decide +kernel
theorem dX8_copy_93 : decode cX8_copy 93 = .ok (.iload 5, 2) := by decide +kernel
theorem dX8_copy_95 : decode cX8_copy 95 = .ok (.invokevirtual 311, 3) := by decide +kernel
theorem dX8_copy_98 : decode cX8_copy 98 = .ok (.ifCond .ne 9, 3) := by decide +kernel
theorem dX8_copy_101 : decode cX8_copy 101 = .ok (.aload_n 0, 1) := by decide +kernel
theorem dX8_copy_102 : decode cX8_copy 102 = .ok (.iconst 2, 1) := by decide +kernel
theorem dX8_copy_103 : decode cX8_copy 103 = .ok (.invokevirtual 282, 3) := by decide +kernel
theorem dX8_copy_106 : decode cX8_copy 106 = .ok (.ireturn, 1) := by decide +kernel
theorem dX8_copy_107 : decode cX8_copy 107 = .ok (.aload_n 0, 1) := by decide +kernel
theorem dX8_copy_108 : decode cX8_copy 108 = .ok (.getfield 92, 3) := by decide +kernel
theorem dX8_copy_111 : decode cX8_copy 111 = .ok (.getfield 305, 3) := by decide +kernel
theorem dX8_copy_114 : decode cX8_copy 114 = .ok (.iload_n 1, 1) := by decide +kernel
theorem dX8_copy_115 : decode cX8_copy 115 = .ok (.aaload, 1) := by decide +kernel
theorem dX8_copy_116 : decode cX8_copy 116 = .ok (.iload_n 2, 1) := by decide +kernel
theorem dX8_copy_117 : decode cX8_copy 117 = .ok (.aload_n 0, 1) := by decide +kernel
theorem dX8_copy_118 : decode cX8_copy 118 = .ok (.getfield 92, 3) := by decide +kernel
theorem dX8_copy_121 : decode cX8_copy 121 = .ok (.getfield 305, 3) := by decide +kernel
theorem dX8_copy_124 : decode cX8_copy 124 = .ok (.iload_n 3, 1) := by decide +kernel
theorem dX8_copy_125 : decode cX8_copy 125 = .ok (.aaload, 1) := by decide +kernel
theorem dX8_copy_126 : decode cX8_copy 126 = .ok (.iload 4, 2) := by decide +kernel
theorem dX8_copy_128 : decode cX8_copy 128 = .ok (.iload 5, 2) := by decide +kernel
theorem dX8_copy_130 : decode cX8_copy 130 = .ok (.invokestatic 314, 3) := by decide +kernel
theorem dX8_copy_133 : decode cX8_copy 133 = .ok (.iconst 1, 1) := by decide +kernel
theorem dX8_copy_134 : decode cX8_copy 134 = .ok (.ireturn, 1) := by decide +kernel
theorem dX8_read_0 : decode cX8_read 0 = .ok (.iload_n 1, 1) := by decide +kernel
theorem dX8_read_1 : decode cX8_read 1 = .ok (.invokestatic 276, 3) := by decide +kernel
theorem dX8_read_4 : decode cX8_read 4 = .ok (.ifCond .ne 6, 3) := by decide +kernel
theorem dX8_read_7 : decode cX8_read 7 = .ok (.bipush (-2), 2) := by decide +kernel
theorem dX8_read_9 : decode cX8_read 9 = .ok (.ireturn, 1) := by decide +kernel
theorem dX8_read_10 : decode cX8_read 10 = .ok (.aload_n 0, 1) := by decide +kernel
theorem dX8_read_11 : decode cX8_read 11 = .ok (.getfield 92, 3) := by decide +kernel
theorem dX8_read_14 : decode cX8_read 14 = .ok (.iload_n 1, 1) := by decide +kernel
theorem dX8_read_15 : decode cX8_read 15 = .ok (.invokevirtual 289, 3) := by decide +kernel
theorem dX8_read_18 : decode cX8_read 18 = .ok (.ifCond .eq 9, 3) := by decide +kernel
theorem dX8_read_21 : decode cX8_read 21 = .ok (.aload_n 0, 1) := by decide +kernel
theorem dX8_read_22 : decode cX8_read 22 = .ok (.iconst 1, 1) := by decide +kernel
theorem dX8_read_23 : decode cX8_read 23 = .ok (.invokevirtual 282, 3) := by decide +kernel
theorem dX8_read_26 : decode cX8_read 26 = .ok (.ireturn, 1) := by decide +kernel
theorem dX8_read_27 : decode cX8_read 27 = .ok (.aload_n 0, 1) := by decide +kernel
theorem dX8_read_28 : decode cX8_read 28 = .ok (.getfield 92, 3) := by decide +kernel
theorem dX8_read_31 : decode cX8_read 31 = .ok (.getfield 292, 3) := by decide +kernel
theorem dX8_read_34 : decode cX8_read 34 = .ok (.iload_n 1, 1) := by decide +kernel
theorem dX8_read_35 : decode cX8_read 35 = .ok (.iaload, 1) := by decide +kernel
theorem dX8_read_36 : decode cX8_read 36 = .ok (.bipush 8, 2) := by decide +kernel
theorem dX8_read_38 : decode cX8_read 38 = .ok (.invokestatic 320, 3) := by decide +kernel
theorem dX8_read_41 : decode cX8_read 41 = .ok (.istore_n 2, 1) := by decide +kernel
theorem dX8_read_42 : decode cX8_read 42 = .ok (.iconst 0, 1) := by decide +kernel
theorem dX8_read_43 : decode cX8_read 43 = .ok (.istore_n 3, 1) := by decide +kernel
theorem dX8_read_44 : decode cX8_read 44 = .ok (.iload_n 3, 1) := by decide +kernel
theorem dX8_read_45 : decode cX8_read 45 = .ok (.iload_n 2, 1) := by decide +kernel
theorem dX8_read_46 : decode cX8_read 46 = .ok (.if_icmp .ge 44, 3) := by decide +kernel
theorem dX8_read_49 : decode cX8_read 49 = .ok (.aload_n 0, 1) := by decide +kernel
theorem dX8_read_50 : decode cX8_read 50 = .ok (.getfield 92, 3) := by decide +kernel
theorem dX8_read_53 : decode cX8_read 53 = .ok (.getfield 305, 3) := by decide +kernel
theorem dX8_read_56 : decode cX8_read 56 = .ok (.iload_n 1, 1) := by decide +kernel
theorem dX8_read_57 : decode cX8_read 57 = .ok (.aaload, 1) := by decide +kernel
theorem dX8_read_58 : decode cX8_read 58 = .ok (.iload_n 3, 1) := by decide +kernel
theorem dX8_read_59 : decode cX8_read 59 = .ok (.iaload, 1) := by decide +kernel
theorem dX8_read_60 : decode cX8_read 60 = .ok (.istore 4, 2) := by decide +kernel
theorem dX8_read_62 : decode cX8_read 62 = .ok (.iload 4, 2) := by decide +kernel
theorem dX8_read_64 : decode cX8_read 64 = .ok (.iconst 0, 1) := by decide +kernel
theorem dX8_read_65 : decode cX8_read 65 = .ok (.sipush 999, 3) := by decide +kernel
theorem dX8_read_68 : decode cX8_read 68 = .ok (.invokestatic 120, 3) := by decide +kernel
theorem dX8_read_71 : decode cX8_read 71 = .ok (.ifCond .ne 5, 3) := by decide +kernel
theorem dX8_read_74 : decode cX8_read 74 = .ok (.iload_n 3, 1) := by decide +kernel
theorem dX8_read_75 : decode cX8_read 75 = .ok (.ireturn, 1) := by decide +kernel
theorem dX8_read_76 : decode cX8_read 76 = .ok (.aload_n 0, 1) := by decide +kernel
theorem dX8_read_77 : decode cX8_read 77 = .ok (.getfield 39, 3) := by decide +kernel
theorem dX8_read_80 : decode cX8_read 80 = .ok (.iload_n 3, 1) := by decide +kernel
theorem dX8_read_81 : decode cX8_read 81 = .ok (.iload 4, 2) := by decide +kernel
theorem dX8_read_83 : decode cX8_read 83 = .ok (.iastore, 1) := by decide +kernel
theorem dX8_read_84 : decode cX8_read 84 = .ok (.iinc 3 1, 3) := by decide +kernel
theorem dX8_read_87 : decode cX8_read 87 = .ok (.goto (-43), 3) := by decide +kernel
theorem dX8_read_90 : decode cX8_read 90 = .ok (.iload_n 2, 1) := by decide +kernel
theorem dX8_read_91 : decode cX8_read 91 = .ok (.ireturn, 1) := by decide +kernel
theorem dX8_write_0 : decode cX8_write 0 = .ok (.iload_n 1, 1) := by decide +kernel
theorem dX8_write_1 : decode cX8_write 1 = .ok (.invokestatic 146, 3) := by decide +kernel
theorem dX8_write_4 : decode cX8_write 4 = .ok (.ifCond .eq 10, 3) := by decide +kernel
theorem dX8_write_7 : decode cX8_write 7 = .ok (.iload_n 2, 1) := by decide +kernel
theorem dX8_write_8 : decode cX8_write 8 = .ok (.invokestatic 276, 3) := by decide +kernel
theorem dX8_write_11 : decode cX8_write 11 = .ok (.ifCond .ne 6, 3) := by decide +kernel
theorem dX8_write_14 : decode cX8_write 14 = .ok (.bipush (-2), 2) := by decide +kernel
theorem dX8_write_16 : decode cX8_write 16 = .ok (.ireturn, 1) := by decide +kernel
theorem dX8_write_17 : decode cX8_write 17 = .ok (.aload_n 0, 1) := by decide +kernel
theorem dX8_write_18 : decode cX8_write 18 = .ok (.getfield 92, 3) := by decide +kernel
theorem dX8_write_21 : decode cX8_write 21 = .ok (.iload_n 2, 1) := by decide +kernel
theorem dX8_write_22 : decode cX8_write 22 = .ok (.invokevirtual 289, 3) := by decide +kernel
theorem dX8_write_25 : decode cX8_write 25 = .ok (.ifCond .eq 9, 3) := by decide +kernel
theorem dX8_write_28 : decode cX8_write 28 = .ok (.aload_n 0, 1) := by decide +kernel
theorem dX8_write_29 : decode cX8_write 29 = .ok (.iconst 1, 1) := by decide +kernel
theorem dX8_write_30 : decode cX8_write 30 = .ok (.invokevirtual 282, 3) := by decide +kernel
theorem dX8_write_33 : decode cX8_write 33 = .ok (.ireturn, 1) := by decide +kernel
theorem dX8_write_34 : decode cX8_write 34 = .ok (.aload_n 0, 1) := by decide +kernel
theorem dX8_write_35 : decode cX8_write 35 = .ok (.invokevirtual 143, 3) := by decide +kernel
theorem dX8_write_38 : decode cX8_write 38 = .ok (.aload_n 0, 1) := by decide +kernel
theorem dX8_write_39 : decode cX8_write 39 = .ok (.getfield 92, 3) := by decide +kernel
theorem dX8_write_42 : decode cX8_write 42 = .ok (.getfield 292, 3) := by decide +kernel
theorem dX8_write_45 : decode cX8_write 45 = .ok (.iload_n 2, 1) := by decide +kernel
theorem dX8_write_46 : decode cX8_write 46 = .ok (.iaload, 1) := by decide +kernel
theorem dX8_write_47 : decode cX8_write 47 = .ok (.bipush 8, 2) := by decide +kernel
theorem dX8_write_49 : decode cX8_write 49 = .ok (.invokestatic 320, 3) := by decide +kernel
theorem dX8_write_52 : decode cX8_write 52 = .ok (.istore_n 3, 1) := by decide +kernel
theorem dX8_write_53 : decode cX8_write 53 = .ok (.iconst 0, 1) := by decide +kernel
theorem dX8_write_54 : decode cX8_write 54 = .ok (.istore 4, 2) := by decide +kernel
theorem dX8_write_56 : decode cX8_write 56 = .ok (.iload 4, 2) := by decide +kernel
theorem dX8_write_58 : decode cX8_write 58 = .ok (.iload_n 3, 1) := by decide +kernel
theorem dX8_write_59 : decode cX8_write 59 = .ok (.if_icmp .ge 26, 3) := by decide +kernel
theorem dX8_write_62 : decode cX8_write 62 = .ok (.aload_n 0, 1) := by decide +kernel
theorem dX8_write_63 : decode cX8_write 63 = .ok (.getfield 92, 3) := by decide +kernel
theorem dX8_write_66 : decode cX8_write 66 = .ok (.iload_n 2, 1) := by decide +kernel
theorem dX8_write_67 : decode cX8_write 67 = .ok (.iload 4, 2) := by decide +kernel
theorem dX8_write_69 : decode cX8_write 69 = .ok (.aload_n 0, 1) := by decide +kernel
theorem dX8_write_70 : decode cX8_write 70 = .ok (.iload 4, 2) := by decide +kernel
theorem dX8_write_72 : decode cX8_write 72 = .ok (.iload_n 1, 1) := by decide +kernel
theorem dX8_write_73 : decode cX8_write 73 = .ok (.invokevirtual 201, 3) := by decide +kernel
theorem dX8_write_76 : decode cX8_write 76 = .ok (.invokevirtual 301, 3) := by decide +kernel
theorem dX8_write_79 : decode cX8_write 79 = .ok (.iinc 4 1, 3) := by decide +kernel
theorem dX8_write_82 : decode cX8_write 82 = .ok (.goto (-26), 3) := by decide +kernel
theorem dX8_write_85 : decode cX8_write 85 = .ok (.iload_n 3, 1) := by decide +kernel
theorem dX8_write_86 : decode cX8_write 86 = .ok (.ireturn, 1) := by decide +kernel
theorem dX8_count_0 : decode cX8_count 0 = .ok (.iload_n 1, 1) := by decide +kernel
theorem dX8_count_1 : decode cX8_count 1 = .ok (.tableswitch 114 0 8 #[51, 59, 67, 75, 83, 91, 99, 104, 109], 51) := by decide +kernel
theorem dX8_count_52 : decode cX8_count 52 = .ok (.aload_n 0, 1) := by decide +kernel
theorem dX8_count_53 : decode cX8_count 53 = .ok (.getfield 14, 3) := by decide +kernel
theorem dX8_count_56 : decode cX8_count 56 = .ok (.invokevirtual 323, 3) := by decide +kernel
theorem dX8_count_59 : decode cX8_count 59 = .ok (.ireturn, 1) := by decide +kernel
theorem dX8_count_60 : decode cX8_count 60 = .ok (.aload_n 0, 1) := by decide +kernel
theorem dX8_count_61 : decode cX8_count 61 = .ok (.getfield 18, 3) := by decide +kernel
theorem dX8_count_64 : decode cX8_count 64 = .ok (.invokevirtual 323, 3) := by decide +kernel
theorem dX8_count_67 : decode cX8_count 67 = .ok (.ireturn, 1) := by decide +kernel
theorem dX8_count_68 : decode cX8_count 68 = .ok (.aload_n 0, 1) := by decide +kernel
theorem dX8_count_69 : decode cX8_count 69 = .ok (.getfield 23, 3) := by decide +kernel
theorem dX8_count_72 : decode cX8_count 72 = .ok (.invokevirtual 323, 3) := by decide +kernel
theorem dX8_count_75 : decode cX8_count 75 = .ok (.ireturn, 1) := by decide +kernel
theorem dX8_count_76 : decode cX8_count 76 = .ok (.aload_n 0, 1) := by decide +kernel
theorem dX8_count_77 : decode cX8_count 77 = .ok (.getfield 29, 3) := by decide +kernel
theorem dX8_count_80 : decode cX8_count 80 = .ok (.getfield 182, 3) := by decide +kernel
theorem dX8_count_83 : decode cX8_count 83 = .ok (.ireturn, 1) := by decide +kernel
theorem dX8_count_84 : decode cX8_count 84 = .ok (.aload_n 0, 1) := by decide +kernel
theorem dX8_count_85 : decode cX8_count 85 = .ok (.getfield 33, 3) := by decide +kernel
theorem dX8_count_88 : decode cX8_count 88 = .ok (.getfield 182, 3) := by decide +kernel
theorem dX8_count_91 : decode cX8_count 91 = .ok (.ireturn, 1) := by decide +kernel
theorem dX8_count_92 : decode cX8_count 92 = .ok (.aload_n 0, 1) := by decide +kernel
theorem dX8_count_93 : decode cX8_count 93 = .ok (.getfield 36, 3) := by decide +kernel
theorem dX8_count_96 : decode cX8_count 96 = .ok (.getfield 182, 3) := by decide +kernel
theorem dX8_count_99 : decode cX8_count 99 = .ok (.ireturn, 1) := by decide +kernel
theorem dX8_count_100 : decode cX8_count 100 = .ok (.aload_n 0, 1) := by decide +kernel
theorem dX8_count_101 : decode cX8_count 101 = .ok (.getfield 96, 3) := by decide +kernel
theorem dX8_count_104 : decode cX8_count 104 = .ok (.ireturn, 1) := by decide +kernel
theorem dX8_count_105 : decode cX8_count 105 = .ok (.aload_n 0, 1) := by decide +kernel
theorem dX8_count_106 : decode cX8_count 106 = .ok (.getfield 100, 3) := by decide +kernel
theorem dX8_count_109 : decode cX8_count 109 = .ok (.ireturn, 1) := by decide +kernel
theorem dX8_count_110 : decode cX8_count 110 = .ok (.aload_n 0, 1) := by decide +kernel
theorem dX8_count_111 : decode cX8_count 111 = .ok (.getfield 103, 3) := by decide +kernel
theorem dX8_count_114 : decode cX8_count 114 = .ok (.ireturn, 1) := by decide +kernel
theorem dX8_count_115 : decode cX8_count 115 = .ok (.bipush (-2), 2) := by decide +kernel
theorem dX8_count_117 : decode cX8_count 117 = .ok (.ireturn, 1) := by decide +kernel
theorem dX8_digest_0 : decode cX8_digest 0 = .ok (.aload_n 0, 1) := by decide +kernel
theorem dX8_digest_1 : decode cX8_digest 1 = .ok (.invokevirtual 143, 3) := by decide +kernel
theorem dX8_digest_4 : decode cX8_digest 4 = .ok (.ldc2_w 325, 3) := by decide +kernel
theorem dX8_digest_7 : decode cX8_digest 7 = .ok (.lstore_n 1, 1) := by decide +kernel
theorem dX8_digest_8 : decode cX8_digest 8 = .ok (.iconst 0, 1) := by decide +kernel
theorem dX8_digest_9 : decode cX8_digest 9 = .ok (.istore_n 3, 1) := by decide +kernel
theorem dX8_digest_10 : decode cX8_digest 10 = .ok (.iload_n 3, 1) := by decide +kernel
theorem dX8_digest_11 : decode cX8_digest 11 = .ok (.bipush 7, 2) := by decide +kernel
theorem dX8_digest_13 : decode cX8_digest 13 = .ok (.if_icmp .gt 20, 3) := by decide +kernel
theorem dX8_digest_16 : decode cX8_digest 16 = .ok (.lload_n 1, 1) := by decide +kernel
theorem dX8_digest_17 : decode cX8_digest 17 = .ok (.aload_n 0, 1) := by decide +kernel
theorem dX8_digest_18 : decode cX8_digest 18 = .ok (.iload_n 3, 1) := by decide +kernel
theorem dX8_digest_19 : decode cX8_digest 19 = .ok (.invokevirtual 327, 3) := by decide +kernel
theorem dX8_digest_22 : decode cX8_digest 22 = .ok (.i2l, 1) := by decide +kernel
theorem dX8_digest_23 : decode cX8_digest 23 = .ok (.invokestatic 330, 3) := by decide +kernel
theorem dX8_digest_26 : decode cX8_digest 26 = .ok (.lstore_n 1, 1) := by decide +kernel
theorem dX8_digest_27 : decode cX8_digest 27 = .ok (.iinc 3 1, 3) := by decide +kernel
theorem dX8_digest_30 : decode cX8_digest 30 = .ok (.goto (-20), 3) := by decide +kernel
theorem dX8_digest_33 : decode cX8_digest 33 = .ok (.iconst 0, 1) := by decide +kernel
theorem dX8_digest_34 : decode cX8_digest 34 = .ok (.istore_n 3, 1) := by decide +kernel
theorem dX8_digest_35 : decode cX8_digest 35 = .ok (.iload_n 3, 1) := by decide +kernel
theorem dX8_digest_36 : decode cX8_digest 36 = .ok (.iconst 2, 1) := by decide +kernel
theorem dX8_digest_37 : decode cX8_digest 37 = .ok (.if_icmp .gt 20, 3) := by decide +kernel
theorem dX8_digest_40 : decode cX8_digest 40 = .ok (.lload_n 1, 1) := by decide +kernel
theorem dX8_digest_41 : decode cX8_digest 41 = .ok (.aload_n 0, 1) := by decide +kernel
theorem dX8_digest_42 : decode cX8_digest 42 = .ok (.iload_n 3, 1) := by decide +kernel
theorem dX8_digest_43 : decode cX8_digest 43 = .ok (.invokevirtual 334, 3) := by decide +kernel
theorem dX8_digest_46 : decode cX8_digest 46 = .ok (.i2l, 1) := by decide +kernel
theorem dX8_digest_47 : decode cX8_digest 47 = .ok (.invokestatic 330, 3) := by decide +kernel
theorem dX8_digest_50 : decode cX8_digest 50 = .ok (.lstore_n 1, 1) := by decide +kernel
theorem dX8_digest_51 : decode cX8_digest 51 = .ok (.iinc 3 1, 3) := by decide +kernel
theorem dX8_digest_54 : decode cX8_digest 54 = .ok (.goto (-19), 3) := by decide +kernel
theorem dX8_digest_57 : decode cX8_digest 57 = .ok (.aload_n 0, 1) := by decide +kernel
theorem dX8_digest_58 : decode cX8_digest 58 = .ok (.lload_n 1, 1) := by decide +kernel
theorem dX8_digest_59 : decode cX8_digest 59 = .ok (.invokevirtual 337, 3) := by decide +kernel
theorem dX8_digest_62 : decode cX8_digest 62 = .ok (.lstore_n 1, 1) := by decide +kernel
theorem dX8_digest_63 : decode cX8_digest 63 = .ok (.aload_n 0, 1) := by decide +kernel
theorem dX8_digest_64 : decode cX8_digest 64 = .ok (.lload_n 1, 1) := by decide +kernel
theorem dX8_digest_65 : decode cX8_digest 65 = .ok (.invokevirtual 341, 3) := by decide +kernel
theorem dX8_digest_68 : decode cX8_digest 68 = .ok (.lstore_n 1, 1) := by decide +kernel
theorem dX8_digest_69 : decode cX8_digest 69 = .ok (.aload_n 0, 1) := by decide +kernel
theorem dX8_digest_70 : decode cX8_digest 70 = .ok (.lload_n 1, 1) := by decide +kernel
theorem dX8_digest_71 : decode cX8_digest 71 = .ok (.invokevirtual 344, 3) := by decide +kernel
theorem dX8_digest_74 : decode cX8_digest 74 = .ok (.lstore_n 1, 1) := by decide +kernel
theorem dX8_digest_75 : decode cX8_digest 75 = .ok (.aload_n 0, 1) := by decide +kernel
theorem dX8_digest_76 : decode cX8_digest 76 = .ok (.lload_n 1, 1) := by decide +kernel
theorem dX8_digest_77 : decode cX8_digest 77 = .ok (.invokevirtual 347, 3) := by decide +kernel
theorem dX8_digest_80 : decode cX8_digest 80 = .ok (.lstore_n 1, 1) := by decide +kernel
theorem dX8_digest_81 : decode cX8_digest 81 = .ok (.bipush (-2), 2) := by decide +kernel
theorem dX8_digest_83 : decode cX8_digest 83 = .ok (.istore_n 3, 1) := by decide +kernel
theorem dX8_digest_84 : decode cX8_digest 84 = .ok (.iload_n 3, 1) := by decide +kernel
theorem dX8_digest_85 : decode cX8_digest 85 = .ok (.iconst 2, 1) := by decide +kernel
theorem dX8_digest_86 : decode cX8_digest 86 = .ok (.if_icmp .gt 20, 3) := by decide +kernel
theorem dX8_digest_89 : decode cX8_digest 89 = .ok (.lload_n 1, 1) := by decide +kernel
theorem dX8_digest_90 : decode cX8_digest 90 = .ok (.aload_n 0, 1) := by decide +kernel
theorem dX8_digest_91 : decode cX8_digest 91 = .ok (.iload_n 3, 1) := by decide +kernel
theorem dX8_digest_92 : decode cX8_digest 92 = .ok (.invokevirtual 350, 3) := by decide +kernel
theorem dX8_digest_95 : decode cX8_digest 95 = .ok (.i2l, 1) := by decide +kernel
theorem dX8_digest_96 : decode cX8_digest 96 = .ok (.invokestatic 330, 3) := by decide +kernel
theorem dX8_digest_99 : decode cX8_digest 99 = .ok (.lstore_n 1, 1) := by decide +kernel
theorem dX8_digest_100 : decode cX8_digest 100 = .ok (.iinc 3 1, 3) := by decide +kernel
theorem dX8_digest_103 : decode cX8_digest 103 = .ok (.goto (-19), 3) := by decide +kernel
theorem dX8_digest_106 : decode cX8_digest 106 = .ok (.lload_n 1, 1) := by decide +kernel
theorem dX8_digest_107 : decode cX8_digest 107 = .ok (.aload_n 0, 1) := by decide +kernel
theorem dX8_digest_108 : decode cX8_digest 108 = .ok (.invokevirtual 353, 3) := by decide +kernel
theorem dX8_digest_111 : decode cX8_digest 111 = .ok (.i2l, 1) := by decide +kernel
theorem dX8_digest_112 : decode cX8_digest 112 = .ok (.invokestatic 330, 3) := by decide +kernel
theorem dX8_digest_115 : decode cX8_digest 115 = .ok (.lreturn, 1) := by decide +kernel
theorem dX8_mixYears_0 : decode cX8_mixYears 0 = .ok (.lload_n 1, 1) := by decide +kernel
theorem dX8_mixYears_1 : decode cX8_mixYears 1 = .ok (.lstore_n 3, 1) := by decide +kernel
theorem dX8_mixYears_2 : decode cX8_mixYears 2 = .ok (.getstatic 356, 3) := by decide +kernel
theorem dX8_mixYears_5 : decode cX8_mixYears 5 = .ok (.astore 5, 2) := by decide +kernel
theorem dX8_mixYears_7 : decode cX8_mixYears 7 = .ok (.aload 5, 2) := by decide +kernel
theorem dX8_mixYears_9 : decode cX8_mixYears 9 = .ok (.arraylength, 1) := by decide +kernel
theorem dX8_mixYears_10 : decode cX8_mixYears 10 = .ok (.istore 6, 2) := by decide +kernel
theorem dX8_mixYears_12 : decode cX8_mixYears 12 = .ok (.iconst 0, 1) := by decide +kernel
theorem dX8_mixYears_13 : decode cX8_mixYears 13 = .ok (.istore 7, 2) := by decide +kernel
theorem dX8_mixYears_15 : decode cX8_mixYears 15 = .ok (.iload 7, 2) := by decide +kernel
theorem dX8_mixYears_17 : decode cX8_mixYears 17 = .ok (.iload 6, 2) := by decide +kernel
theorem dX8_mixYears_19 : decode cX8_mixYears 19 = .ok (.if_icmp .ge 112, 3) := by decide +kernel
theorem dX8_mixYears_22 : decode cX8_mixYears 22 = .ok (.aload 5, 2) := by decide +kernel
theorem dX8_mixYears_24 : decode cX8_mixYears 24 = .ok (.iload 7, 2) := by decide +kernel
theorem dX8_mixYears_26 : decode cX8_mixYears 26 = .ok (.iaload, 1) := by decide +kernel
theorem dX8_mixYears_27 : decode cX8_mixYears 27 = .ok (.istore 8, 2) := by decide +kernel
theorem dX8_mixYears_29 : decode cX8_mixYears 29 = .ok (.iconst 0, 1) := by decide +kernel
theorem dX8_mixYears_30 : decode cX8_mixYears 30 = .ok (.istore 9, 2) := by decide +kernel
theorem dX8_mixYears_32 : decode cX8_mixYears 32 = .ok (.iload 9, 2) := by decide +kernel
theorem dX8_mixYears_34 : decode cX8_mixYears 34 = .ok (.iconst 3, 1) := by decide +kernel
theorem dX8_mixYears_35 : decode cX8_mixYears 35 = .ok (.if_icmp .ge 90, 3) := by decide +kernel
theorem dX8_mixYears_38 : decode cX8_mixYears 38 = .ok (.lload_n 3, 1) := by decide +kernel
theorem dX8_mixYears_39 : decode cX8_mixYears 39 = .ok (.aload_n 0, 1) := by decide +kernel
theorem dX8_mixYears_40 : decode cX8_mixYears 40 = .ok (.iload 8, 2) := by decide +kernel
theorem dX8_mixYears_42 : decode cX8_mixYears 42 = .ok (.iload 9, 2) := by decide +kernel
theorem dX8_mixYears_44 : decode cX8_mixYears 44 = .ok (.invokevirtual 359, 3) := by decide +kernel
theorem dX8_mixYears_47 : decode cX8_mixYears 47 = .ok (.i2l, 1) := by decide +kernel
theorem dX8_mixYears_48 : decode cX8_mixYears 48 = .ok (.invokestatic 330, 3) := by decide +kernel
theorem dX8_mixYears_51 : decode cX8_mixYears 51 = .ok (.lstore_n 3, 1) := by decide +kernel
theorem dX8_mixYears_52 : decode cX8_mixYears 52 = .ok (.lload_n 3, 1) := by decide +kernel
theorem dX8_mixYears_53 : decode cX8_mixYears 53 = .ok (.aload_n 0, 1) := by decide +kernel
theorem dX8_mixYears_54 : decode cX8_mixYears 54 = .ok (.iload 8, 2) := by decide +kernel
theorem dX8_mixYears_56 : decode cX8_mixYears 56 = .ok (.iload 9, 2) := by decide +kernel
theorem dX8_mixYears_58 : decode cX8_mixYears 58 = .ok (.invokevirtual 362, 3) := by decide +kernel
theorem dX8_mixYears_61 : decode cX8_mixYears 61 = .ok (.i2l, 1) := by decide +kernel
theorem dX8_mixYears_62 : decode cX8_mixYears 62 = .ok (.invokestatic 330, 3) := by decide +kernel
theorem dX8_mixYears_65 : decode cX8_mixYears 65 = .ok (.lstore_n 3, 1) := by decide +kernel
theorem dX8_mixYears_66 : decode cX8_mixYears 66 = .ok (.iconst 0, 1) := by decide +kernel
theorem dX8_mixYears_67 : decode cX8_mixYears 67 = .ok (.istore 10, 2) := by decide +kernel
theorem dX8_mixYears_69 : decode cX8_mixYears 69 = .ok (.iload 10, 2) := by decide +kernel
theorem dX8_mixYears_71 : decode cX8_mixYears 71 = .ok (.aload_n 0, 1) := by decide +kernel
theorem dX8_mixYears_72 : decode cX8_mixYears 72 = .ok (.getfield 49, 3) := by decide +kernel
theorem dX8_mixYears_75 : decode cX8_mixYears 75 = .ok (.getfield 215, 3) := by decide +kernel
theorem dX8_mixYears_78 : decode cX8_mixYears 78 = .ok (.if_icmp .ge 41, 3) := by decide +kernel
theorem dX8_mixYears_81 : decode cX8_mixYears 81 = .ok (.lload_n 3, 1) := by decide +kernel
theorem dX8_mixYears_82 : decode cX8_mixYears 82 = .ok (.aload_n 0, 1) := by decide +kernel
theorem dX8_mixYears_83 : decode cX8_mixYears 83 = .ok (.iload 8, 2) := by decide +kernel
theorem dX8_mixYears_85 : decode cX8_mixYears 85 = .ok (.iload 10, 2) := by decide +kernel
theorem dX8_mixYears_87 : decode cX8_mixYears 87 = .ok (.iload 9, 2) := by decide +kernel
theorem dX8_mixYears_89 : decode cX8_mixYears 89 = .ok (.invokevirtual 365, 3) := by decide +kernel
theorem dX8_mixYears_92 : decode cX8_mixYears 92 = .ok (.i2l, 1) := by decide +kernel
theorem dX8_mixYears_93 : decode cX8_mixYears 93 = .ok (.invokestatic 330, 3) := by decide +kernel
theorem dX8_mixYears_96 : decode cX8_mixYears 96 = .ok (.lstore_n 3, 1) := by decide +kernel
theorem dX8_mixYears_97 : decode cX8_mixYears 97 = .ok (.lload_n 3, 1) := by decide +kernel
theorem dX8_mixYears_98 : decode cX8_mixYears 98 = .ok (.aload_n 0, 1) := by decide +kernel
theorem dX8_mixYears_99 : decode cX8_mixYears 99 = .ok (.iload 8, 2) := by decide +kernel
theorem dX8_mixYears_101 : decode cX8_mixYears 101 = .ok (.iload 9, 2) := by decide +kernel
theorem dX8_mixYears_103 : decode cX8_mixYears 103 = .ok (.iload 10, 2) := by decide +kernel
theorem dX8_mixYears_105 : decode cX8_mixYears 105 = .ok (.invokevirtual 368, 3) := by decide +kernel
theorem dX8_mixYears_108 : decode cX8_mixYears 108 = .ok (.i2l, 1) := by decide +kernel
theorem dX8_mixYears_109 : decode cX8_mixYears 109 = .ok (.invokestatic 330, 3) := by decide +kernel
theorem dX8_mixYears_112 : decode cX8_mixYears 112 = .ok (.lstore_n 3, 1) := by decide +kernel
theorem dX8_mixYears_113 : decode cX8_mixYears 113 = .ok (.iinc 10 1, 3) := by decide +kernel
theorem dX8_mixYears_116 : decode cX8_mixYears 116 = .ok (.goto (-47), 3) := by decide +kernel
theorem dX8_mixYears_119 : decode cX8_mixYears 119 = .ok (.iinc 9 1, 3) := by decide +kernel
theorem dX8_mixYears_122 : decode cX8_mixYears 122 = .ok (.goto (-90), 3) := by decide +kernel
theorem dX8_mixYears_125 : decode cX8_mixYears 125 = .ok (.iinc 7 1, 3) := by decide +kernel
theorem dX8_mixYears_128 : decode cX8_mixYears 128 = .ok (.goto (-113), 3) := by decide +kernel
theorem dX8_mixYears_131 : decode cX8_mixYears 131 = .ok (.lload_n 3, 1) := by decide +kernel
theorem dX8_mixYears_132 : decode cX8_mixYears 132 = .ok (.aload_n 0, 1) := by decide +kernel
theorem dX8_mixYears_133 : decode cX8_mixYears 133 = .ok (.invokevirtual 371, 3) := by decide +kernel
theorem dX8_mixYears_136 : decode cX8_mixYears 136 = .ok (.i2l, 1) := by decide +kernel
theorem dX8_mixYears_137 : decode cX8_mixYears 137 = .ok (.invokestatic 330, 3) := by decide +kernel
theorem dX8_mixYears_140 : decode cX8_mixYears 140 = .ok (.lreturn, 1) := by decide +kernel
theorem dX8_mixPeople_0 : decode cX8_mixPeople 0 = .ok (.lload_n 1, 1) := by decide +kernel
theorem dX8_mixPeople_1 : decode cX8_mixPeople 1 = .ok (.lstore_n 3, 1) := by decide +kernel
theorem dX8_mixPeople_2 : decode cX8_mixPeople 2 = .ok (.iconst 0, 1) := by decide +kernel
theorem dX8_mixPeople_3 : decode cX8_mixPeople 3 = .ok (.istore 5, 2) := by decide +kernel
theorem dX8_mixPeople_5 : decode cX8_mixPeople 5 = .ok (.iload 5, 2) := by decide +kernel
theorem dX8_mixPeople_7 : decode cX8_mixPeople 7 = .ok (.bipush 8, 2) := by decide +kernel
theorem dX8_mixPeople_9 : decode cX8_mixPeople 9 = .ok (.if_icmp .ge 35, 3) := by decide +kernel
theorem dX8_mixPeople_12 : decode cX8_mixPeople 12 = .ok (.lload_n 3, 1) := by decide +kernel
theorem dX8_mixPeople_13 : decode cX8_mixPeople 13 = .ok (.aload_n 0, 1) := by decide +kernel
theorem dX8_mixPeople_14 : decode cX8_mixPeople 14 = .ok (.iload 5, 2) := by decide +kernel
theorem dX8_mixPeople_16 : decode cX8_mixPeople 16 = .ok (.bipush 9, 2) := by decide +kernel
theorem dX8_mixPeople_18 : decode cX8_mixPeople 18 = .ok (.invokevirtual 374, 3) := by decide +kernel
theorem dX8_mixPeople_21 : decode cX8_mixPeople 21 = .ok (.i2l, 1) := by decide +kernel
theorem dX8_mixPeople_22 : decode cX8_mixPeople 22 = .ok (.invokestatic 330, 3) := by decide +kernel
theorem dX8_mixPeople_25 : decode cX8_mixPeople 25 = .ok (.lstore_n 3, 1) := by decide +kernel
theorem dX8_mixPeople_26 : decode cX8_mixPeople 26 = .ok (.lload_n 3, 1) := by decide +kernel
theorem dX8_mixPeople_27 : decode cX8_mixPeople 27 = .ok (.aload_n 0, 1) := by decide +kernel
theorem dX8_mixPeople_28 : decode cX8_mixPeople 28 = .ok (.iload 5, 2) := by decide +kernel
theorem dX8_mixPeople_30 : decode cX8_mixPeople 30 = .ok (.invokevirtual 377, 3) := by decide +kernel
theorem dX8_mixPeople_33 : decode cX8_mixPeople 33 = .ok (.i2l, 1) := by decide +kernel
theorem dX8_mixPeople_34 : decode cX8_mixPeople 34 = .ok (.invokestatic 330, 3) := by decide +kernel
theorem dX8_mixPeople_37 : decode cX8_mixPeople 37 = .ok (.lstore_n 3, 1) := by decide +kernel
theorem dX8_mixPeople_38 : decode cX8_mixPeople 38 = .ok (.iinc 5 1, 3) := by decide +kernel
theorem dX8_mixPeople_41 : decode cX8_mixPeople 41 = .ok (.goto (-36), 3) := by decide +kernel
theorem dX8_mixPeople_44 : decode cX8_mixPeople 44 = .ok (.lload_n 3, 1) := by decide +kernel
theorem dX8_mixPeople_45 : decode cX8_mixPeople 45 = .ok (.aload_n 0, 1) := by decide +kernel
theorem dX8_mixPeople_46 : decode cX8_mixPeople 46 = .ok (.iconst 0, 1) := by decide +kernel
theorem dX8_mixPeople_47 : decode cX8_mixPeople 47 = .ok (.invokevirtual 380, 3) := by decide +kernel
theorem dX8_mixPeople_50 : decode cX8_mixPeople 50 = .ok (.i2l, 1) := by decide +kernel
theorem dX8_mixPeople_51 : decode cX8_mixPeople 51 = .ok (.invokestatic 330, 3) := by decide +kernel
theorem dX8_mixPeople_54 : decode cX8_mixPeople 54 = .ok (.lstore_n 3, 1) := by decide +kernel
theorem dX8_mixPeople_55 : decode cX8_mixPeople 55 = .ok (.lload_n 3, 1) := by decide +kernel
theorem dX8_mixPeople_56 : decode cX8_mixPeople 56 = .ok (.aload_n 0, 1) := by decide +kernel
theorem dX8_mixPeople_57 : decode cX8_mixPeople 57 = .ok (.iconst 1, 1) := by decide +kernel
theorem dX8_mixPeople_58 : decode cX8_mixPeople 58 = .ok (.invokevirtual 380, 3) := by decide +kernel
theorem dX8_mixPeople_61 : decode cX8_mixPeople 61 = .ok (.i2l, 1) := by decide +kernel
theorem dX8_mixPeople_62 : decode cX8_mixPeople 62 = .ok (.invokestatic 330, 3) := by decide +kernel
theorem dX8_mixPeople_65 : decode cX8_mixPeople 65 = .ok (.lstore_n 3, 1) := by decide +kernel
theorem dX8_mixPeople_66 : decode cX8_mixPeople 66 = .ok (.iconst 0, 1) := by decide +kernel
theorem dX8_mixPeople_67 : decode cX8_mixPeople 67 = .ok (.istore 5, 2) := by decide +kernel
theorem dX8_mixPeople_69 : decode cX8_mixPeople 69 = .ok (.iload 5, 2) := by decide +kernel
theorem dX8_mixPeople_71 : decode cX8_mixPeople 71 = .ok (.aload_n 0, 1) := by decide +kernel
theorem dX8_mixPeople_72 : decode cX8_mixPeople 72 = .ok (.getfield 33, 3) := by decide +kernel
theorem dX8_mixPeople_75 : decode cX8_mixPeople 75 = .ok (.getfield 182, 3) := by decide +kernel
theorem dX8_mixPeople_78 : decode cX8_mixPeople 78 = .ok (.if_icmp .ge 21, 3) := by decide +kernel
theorem dX8_mixPeople_81 : decode cX8_mixPeople 81 = .ok (.lload_n 3, 1) := by decide +kernel
theorem dX8_mixPeople_82 : decode cX8_mixPeople 82 = .ok (.aload_n 0, 1) := by decide +kernel
theorem dX8_mixPeople_83 : decode cX8_mixPeople 83 = .ok (.iload 5, 2) := by decide +kernel
theorem dX8_mixPeople_85 : decode cX8_mixPeople 85 = .ok (.invokevirtual 383, 3) := by decide +kernel
theorem dX8_mixPeople_88 : decode cX8_mixPeople 88 = .ok (.i2l, 1) := by decide +kernel
theorem dX8_mixPeople_89 : decode cX8_mixPeople 89 = .ok (.invokestatic 330, 3) := by decide +kernel
theorem dX8_mixPeople_92 : decode cX8_mixPeople 92 = .ok (.lstore_n 3, 1) := by decide +kernel
theorem dX8_mixPeople_93 : decode cX8_mixPeople 93 = .ok (.iinc 5 1, 3) := by decide +kernel
theorem dX8_mixPeople_96 : decode cX8_mixPeople 96 = .ok (.goto (-27), 3) := by decide +kernel
theorem dX8_mixPeople_99 : decode cX8_mixPeople 99 = .ok (.lload_n 3, 1) := by decide +kernel
theorem dX8_mixPeople_100 : decode cX8_mixPeople 100 = .ok (.lreturn, 1) := by decide +kernel
theorem dX8_mixVotes_0 : decode cX8_mixVotes 0 = .ok (.lload_n 1, 1) := by decide +kernel
theorem dX8_mixVotes_1 : decode cX8_mixVotes 1 = .ok (.aload_n 0, 1) := by decide +kernel
theorem dX8_mixVotes_2 : decode cX8_mixVotes 2 = .ok (.iconst 0, 1) := by decide +kernel
theorem dX8_mixVotes_3 : decode cX8_mixVotes 3 = .ok (.invokevirtual 386, 3) := by decide +kernel
theorem dX8_mixVotes_6 : decode cX8_mixVotes 6 = .ok (.i2l, 1) := by decide +kernel
theorem dX8_mixVotes_7 : decode cX8_mixVotes 7 = .ok (.invokestatic 330, 3) := by decide +kernel
theorem dX8_mixVotes_10 : decode cX8_mixVotes 10 = .ok (.lstore_n 3, 1) := by decide +kernel
theorem dX8_mixVotes_11 : decode cX8_mixVotes 11 = .ok (.lload_n 3, 1) := by decide +kernel
theorem dX8_mixVotes_12 : decode cX8_mixVotes 12 = .ok (.aload_n 0, 1) := by decide +kernel
theorem dX8_mixVotes_13 : decode cX8_mixVotes 13 = .ok (.invokevirtual 389, 3) := by decide +kernel
theorem dX8_mixVotes_16 : decode cX8_mixVotes 16 = .ok (.i2l, 1) := by decide +kernel
theorem dX8_mixVotes_17 : decode cX8_mixVotes 17 = .ok (.invokestatic 330, 3) := by decide +kernel
theorem dX8_mixVotes_20 : decode cX8_mixVotes 20 = .ok (.lstore_n 3, 1) := by decide +kernel
theorem dX8_mixVotes_21 : decode cX8_mixVotes 21 = .ok (.iconst 0, 1) := by decide +kernel
theorem dX8_mixVotes_22 : decode cX8_mixVotes 22 = .ok (.istore 5, 2) := by decide +kernel
theorem dX8_mixVotes_24 : decode cX8_mixVotes 24 = .ok (.iload 5, 2) := by decide +kernel
theorem dX8_mixVotes_26 : decode cX8_mixVotes 26 = .ok (.aload_n 0, 1) := by decide +kernel
theorem dX8_mixVotes_27 : decode cX8_mixVotes 27 = .ok (.getfield 49, 3) := by decide +kernel
theorem dX8_mixVotes_30 : decode cX8_mixVotes 30 = .ok (.getfield 215, 3) := by decide +kernel
theorem dX8_mixVotes_33 : decode cX8_mixVotes 33 = .ok (.if_icmp .ge 35, 3) := by decide +kernel
theorem dX8_mixVotes_36 : decode cX8_mixVotes 36 = .ok (.lload_n 3, 1) := by decide +kernel
theorem dX8_mixVotes_37 : decode cX8_mixVotes 37 = .ok (.aload_n 0, 1) := by decide +kernel
theorem dX8_mixVotes_38 : decode cX8_mixVotes 38 = .ok (.iload 5, 2) := by decide +kernel
theorem dX8_mixVotes_40 : decode cX8_mixVotes 40 = .ok (.iconst 0, 1) := by decide +kernel
theorem dX8_mixVotes_41 : decode cX8_mixVotes 41 = .ok (.invokevirtual 392, 3) := by decide +kernel
theorem dX8_mixVotes_44 : decode cX8_mixVotes 44 = .ok (.i2l, 1) := by decide +kernel
theorem dX8_mixVotes_45 : decode cX8_mixVotes 45 = .ok (.invokestatic 330, 3) := by decide +kernel
theorem dX8_mixVotes_48 : decode cX8_mixVotes 48 = .ok (.lstore_n 3, 1) := by decide +kernel
theorem dX8_mixVotes_49 : decode cX8_mixVotes 49 = .ok (.lload_n 3, 1) := by decide +kernel
theorem dX8_mixVotes_50 : decode cX8_mixVotes 50 = .ok (.aload_n 0, 1) := by decide +kernel
theorem dX8_mixVotes_51 : decode cX8_mixVotes 51 = .ok (.iload 5, 2) := by decide +kernel
theorem dX8_mixVotes_53 : decode cX8_mixVotes 53 = .ok (.iconst 1, 1) := by decide +kernel
theorem dX8_mixVotes_54 : decode cX8_mixVotes 54 = .ok (.invokevirtual 392, 3) := by decide +kernel
theorem dX8_mixVotes_57 : decode cX8_mixVotes 57 = .ok (.i2l, 1) := by decide +kernel
theorem dX8_mixVotes_58 : decode cX8_mixVotes 58 = .ok (.invokestatic 330, 3) := by decide +kernel
theorem dX8_mixVotes_61 : decode cX8_mixVotes 61 = .ok (.lstore_n 3, 1) := by decide +kernel
theorem dX8_mixVotes_62 : decode cX8_mixVotes 62 = .ok (.iinc 5 1, 3) := by decide +kernel
theorem dX8_mixVotes_65 : decode cX8_mixVotes 65 = .ok (.goto (-41), 3) := by decide +kernel
theorem dX8_mixVotes_68 : decode cX8_mixVotes 68 = .ok (.lload_n 3, 1) := by decide +kernel
theorem dX8_mixVotes_69 : decode cX8_mixVotes 69 = .ok (.lreturn, 1) := by decide +kernel
theorem dX8_mixRatios_0 : decode cX8_mixRatios 0 = .ok (.lload_n 1, 1) := by decide +kernel
theorem dX8_mixRatios_1 : decode cX8_mixRatios 1 = .ok (.lstore_n 3, 1) := by decide +kernel
theorem dX8_mixRatios_2 : decode cX8_mixRatios 2 = .ok (.iconst 1, 1) := by decide +kernel
theorem dX8_mixRatios_3 : decode cX8_mixRatios 3 = .ok (.istore 5, 2) := by decide +kernel
theorem dX8_mixRatios_5 : decode cX8_mixRatios 5 = .ok (.iload 5, 2) := by decide +kernel
theorem dX8_mixRatios_7 : decode cX8_mixRatios 7 = .ok (.bipush 6, 2) := by decide +kernel
theorem dX8_mixRatios_9 : decode cX8_mixRatios 9 = .ok (.if_icmp .ge 35, 3) := by decide +kernel
theorem dX8_mixRatios_12 : decode cX8_mixRatios 12 = .ok (.lload_n 3, 1) := by decide +kernel
theorem dX8_mixRatios_13 : decode cX8_mixRatios 13 = .ok (.aload_n 0, 1) := by decide +kernel
theorem dX8_mixRatios_14 : decode cX8_mixRatios 14 = .ok (.iconst 0, 1) := by decide +kernel
theorem dX8_mixRatios_15 : decode cX8_mixRatios 15 = .ok (.iload 5, 2) := by decide +kernel
theorem dX8_mixRatios_17 : decode cX8_mixRatios 17 = .ok (.iconst 0, 1) := by decide +kernel
theorem dX8_mixRatios_18 : decode cX8_mixRatios 18 = .ok (.invokevirtual 395, 3) := by decide +kernel
theorem dX8_mixRatios_21 : decode cX8_mixRatios 21 = .ok (.invokestatic 330, 3) := by decide +kernel
theorem dX8_mixRatios_24 : decode cX8_mixRatios 24 = .ok (.lstore_n 3, 1) := by decide +kernel
theorem dX8_mixRatios_25 : decode cX8_mixRatios 25 = .ok (.lload_n 3, 1) := by decide +kernel
theorem dX8_mixRatios_26 : decode cX8_mixRatios 26 = .ok (.aload_n 0, 1) := by decide +kernel
theorem dX8_mixRatios_27 : decode cX8_mixRatios 27 = .ok (.iconst 0, 1) := by decide +kernel
theorem dX8_mixRatios_28 : decode cX8_mixRatios 28 = .ok (.iload 5, 2) := by decide +kernel
theorem dX8_mixRatios_30 : decode cX8_mixRatios 30 = .ok (.iconst 1, 1) := by decide +kernel
theorem dX8_mixRatios_31 : decode cX8_mixRatios 31 = .ok (.invokevirtual 395, 3) := by decide +kernel
theorem dX8_mixRatios_34 : decode cX8_mixRatios 34 = .ok (.invokestatic 330, 3) := by decide +kernel
theorem dX8_mixRatios_37 : decode cX8_mixRatios 37 = .ok (.lstore_n 3, 1) := by decide +kernel
theorem dX8_mixRatios_38 : decode cX8_mixRatios 38 = .ok (.iinc 5 1, 3) := by decide +kernel
theorem dX8_mixRatios_41 : decode cX8_mixRatios 41 = .ok (.goto (-36), 3) := by decide +kernel
theorem dX8_mixRatios_44 : decode cX8_mixRatios 44 = .ok (.lload_n 3, 1) := by decide +kernel
theorem dX8_mixRatios_45 : decode cX8_mixRatios 45 = .ok (.aload_n 0, 1) := by decide +kernel
theorem dX8_mixRatios_46 : decode cX8_mixRatios 46 = .ok (.invokevirtual 399, 3) := by decide +kernel
theorem dX8_mixRatios_49 : decode cX8_mixRatios 49 = .ok (.i2l, 1) := by decide +kernel
theorem dX8_mixRatios_50 : decode cX8_mixRatios 50 = .ok (.invokestatic 330, 3) := by decide +kernel
theorem dX8_mixRatios_53 : decode cX8_mixRatios 53 = .ok (.lstore_n 3, 1) := by decide +kernel
theorem dX8_mixRatios_54 : decode cX8_mixRatios 54 = .ok (.lload_n 3, 1) := by decide +kernel
theorem dX8_mixRatios_55 : decode cX8_mixRatios 55 = .ok (.aload_n 0, 1) := by decide +kernel
theorem dX8_mixRatios_56 : decode cX8_mixRatios 56 = .ok (.invokevirtual 402, 3) := by decide +kernel
theorem dX8_mixRatios_59 : decode cX8_mixRatios 59 = .ok (.i2l, 1) := by decide +kernel
theorem dX8_mixRatios_60 : decode cX8_mixRatios 60 = .ok (.invokestatic 330, 3) := by decide +kernel
theorem dX8_mixRatios_63 : decode cX8_mixRatios 63 = .ok (.lreturn, 1) := by decide +kernel
theorem dX8_mix_0 : decode cX8_mix 0 = .ok (.ldc2_w 405, 3) := by decide +kernel
theorem dX8_mix_3 : decode cX8_mix 3 = .ok (.lload_n 0, 1) := by decide +kernel
theorem dX8_mix_4 : decode cX8_mix 4 = .ok (.lmul, 1) := by decide +kernel
theorem dX8_mix_5 : decode cX8_mix 5 = .ok (.lload_n 2, 1) := by decide +kernel
theorem dX8_mix_6 : decode cX8_mix 6 = .ok (.ladd, 1) := by decide +kernel
theorem dX8_mix_7 : decode cX8_mix 7 = .ok (.lreturn, 1) := by decide +kernel
theorem dX8_isWithin_0 : decode cX8_isWithin 0 = .ok (.iload_n 0, 1) := by decide +kernel
theorem dX8_isWithin_1 : decode cX8_isWithin 1 = .ok (.iload_n 1, 1) := by decide +kernel
theorem dX8_isWithin_2 : decode cX8_isWithin 2 = .ok (.if_icmp .lt 12, 3) := by decide +kernel
theorem dX8_isWithin_5 : decode cX8_isWithin 5 = .ok (.iload_n 0, 1) := by decide +kernel
theorem dX8_isWithin_6 : decode cX8_isWithin 6 = .ok (.iload_n 2, 1) := by decide +kernel
theorem dX8_isWithin_7 : decode cX8_isWithin 7 = .ok (.if_icmp .gt 7, 3) := by decide +kernel
theorem dX8_isWithin_10 : decode cX8_isWithin 10 = .ok (.iconst 1, 1) := by decide +kernel
theorem dX8_isWithin_11 : decode cX8_isWithin 11 = .ok (.goto 4, 3) := by decide +kernel
theorem dX8_isWithin_14 : decode cX8_isWithin 14 = .ok (.iconst 0, 1) := by decide +kernel
theorem dX8_isWithin_15 : decode cX8_isWithin 15 = .ok (.ireturn, 1) := by decide +kernel
theorem dX8_isText_0 : decode cX8_isText 0 = .ok (.iload_n 0, 1) := by decide +kernel
theorem dX8_isText_1 : decode cX8_isText 1 = .ok (.iconst 0, 1) := by decide +kernel
theorem dX8_isText_2 : decode cX8_isText 2 = .ok (.iconst 2, 1) := by decide +kernel
theorem dX8_isText_3 : decode cX8_isText 3 = .ok (.invokestatic 120, 3) := by decide +kernel
theorem dX8_isText_6 : decode cX8_isText 6 = .ok (.ireturn, 1) := by decide +kernel
theorem dX8_isYear_0 : decode cX8_isYear 0 = .ok (.iload_n 0, 1) := by decide +kernel
theorem dX8_isYear_1 : decode cX8_isYear 1 = .ok (.iconst 0, 1) := by decide +kernel
theorem dX8_isYear_2 : decode cX8_isYear 2 = .ok (.bipush 9, 2) := by decide +kernel
theorem dX8_isYear_4 : decode cX8_isYear 4 = .ok (.invokestatic 120, 3) := by decide +kernel
theorem dX8_isYear_7 : decode cX8_isYear 7 = .ok (.ireturn, 1) := by decide +kernel
theorem dX8_isUnit_0 : decode cX8_isUnit 0 = .ok (.iload_n 0, 1) := by decide +kernel
theorem dX8_isUnit_1 : decode cX8_isUnit 1 = .ok (.iconst 0, 1) := by decide +kernel
theorem dX8_isUnit_2 : decode cX8_isUnit 2 = .ok (.iconst 2, 1) := by decide +kernel
theorem dX8_isUnit_3 : decode cX8_isUnit 3 = .ok (.invokestatic 120, 3) := by decide +kernel
theorem dX8_isUnit_6 : decode cX8_isUnit 6 = .ok (.ireturn, 1) := by decide +kernel
theorem dX8_isPerson_0 : decode cX8_isPerson 0 = .ok (.iload_n 0, 1) := by decide +kernel
theorem dX8_isPerson_1 : decode cX8_isPerson 1 = .ok (.iconst 0, 1) := by decide +kernel
theorem dX8_isPerson_2 : decode cX8_isPerson 2 = .ok (.bipush 7, 2) := by decide +kernel
theorem dX8_isPerson_4 : decode cX8_isPerson 4 = .ok (.invokestatic 120, 3) := by decide +kernel
theorem dX8_isPerson_7 : decode cX8_isPerson 7 = .ok (.ireturn, 1) := by decide +kernel
theorem dX8_isParty_0 : decode cX8_isParty 0 = .ok (.iload_n 1, 1) := by decide +kernel
theorem dX8_isParty_1 : decode cX8_isParty 1 = .ok (.iconst 0, 1) := by decide +kernel
theorem dX8_isParty_2 : decode cX8_isParty 2 = .ok (.aload_n 0, 1) := by decide +kernel
theorem dX8_isParty_3 : decode cX8_isParty 3 = .ok (.getfield 49, 3) := by decide +kernel
theorem dX8_isParty_6 : decode cX8_isParty 6 = .ok (.getfield 215, 3) := by decide +kernel
theorem dX8_isParty_9 : decode cX8_isParty 9 = .ok (.iconst 1, 1) := by decide +kernel
theorem dX8_isParty_10 : decode cX8_isParty 10 = .ok (.isub, 1) := by decide +kernel
theorem dX8_isParty_11 : decode cX8_isParty 11 = .ok (.invokestatic 120, 3) := by decide +kernel
theorem dX8_isParty_14 : decode cX8_isParty 14 = .ok (.ireturn, 1) := by decide +kernel
theorem dX8_isOnRoll_0 : decode cX8_isOnRoll 0 = .ok (.iload_n 1, 1) := by decide +kernel
theorem dX8_isOnRoll_1 : decode cX8_isOnRoll 1 = .ok (.iconst 0, 1) := by decide +kernel
theorem dX8_isOnRoll_2 : decode cX8_isOnRoll 2 = .ok (.aload_n 0, 1) := by decide +kernel
theorem dX8_isOnRoll_3 : decode cX8_isOnRoll 3 = .ok (.getfield 49, 3) := by decide +kernel
theorem dX8_isOnRoll_6 : decode cX8_isOnRoll 6 = .ok (.getfield 407, 3) := by decide +kernel
theorem dX8_isOnRoll_9 : decode cX8_isOnRoll 9 = .ok (.iconst 1, 1) := by decide +kernel
theorem dX8_isOnRoll_10 : decode cX8_isOnRoll 10 = .ok (.isub, 1) := by decide +kernel
theorem dX8_isOnRoll_11 : decode cX8_isOnRoll 11 = .ok (.invokestatic 120, 3) := by decide +kernel
theorem dX8_isOnRoll_14 : decode cX8_isOnRoll 14 = .ok (.ireturn, 1) := by decide +kernel
theorem dX8_textOf_0 : decode cX8_textOf 0 = .ok (.iload_n 1, 1) := by decide +kernel
theorem dX8_textOf_1 : decode cX8_textOf 1 = .ok (.ifCond .ne 10, 3) := by decide +kernel
theorem dX8_textOf_4 : decode cX8_textOf 4 = .ok (.aload_n 0, 1) := by decide +kernel
theorem dX8_textOf_5 : decode cX8_textOf 5 = .ok (.getfield 14, 3) := by decide +kernel
theorem dX8_textOf_8 : decode cX8_textOf 8 = .ok (.goto 19, 3) := by decide +kernel
theorem dX8_textOf_11 : decode cX8_textOf 11 = .ok (.iload_n 1, 1) := by decide +kernel
theorem dX8_textOf_12 : decode cX8_textOf 12 = .ok (.iconst 1, 1) := by decide +kernel
theorem dX8_textOf_13 : decode cX8_textOf 13 = .ok (.if_icmp .ne 10, 3) := by decide +kernel
theorem dX8_textOf_16 : decode cX8_textOf 16 = .ok (.aload_n 0, 1) := by decide +kernel
theorem dX8_textOf_17 : decode cX8_textOf 17 = .ok (.getfield 18, 3) := by decide +kernel
theorem dX8_textOf_20 : decode cX8_textOf 20 = .ok (.goto 7, 3) := by decide +kernel
theorem dX8_textOf_23 : decode cX8_textOf 23 = .ok (.aload_n 0, 1) := by decide +kernel
theorem dX8_textOf_24 : decode cX8_textOf 24 = .ok (.getfield 23, 3) := by decide +kernel
theorem dX8_textOf_27 : decode cX8_textOf 27 = .ok (.areturn, 1) := by decide +kernel
theorem dX8_find_0 : decode cX8_find 0 = .ok (.aload_n 0, 1) := by decide +kernel
theorem dX8_find_1 : decode cX8_find 1 = .ok (.iload_n 1, 1) := by decide +kernel
theorem dX8_find_2 : decode cX8_find 2 = .ok (.putfield 103, 3) := by decide +kernel
theorem dX8_find_5 : decode cX8_find 5 = .ok (.bipush (-10), 2) := by decide +kernel
theorem dX8_find_7 : decode cX8_find 7 = .ok (.iload_n 1, 1) := by decide +kernel
theorem dX8_find_8 : decode cX8_find 8 = .ok (.isub, 1) := by decide +kernel
theorem dX8_find_9 : decode cX8_find 9 = .ok (.ireturn, 1) := by decide +kernel
theorem dX8_settle_0 : decode cX8_settle 0 = .ok (.aload_n 0, 1) := by decide +kernel
theorem dX8_settle_1 : decode cX8_settle 1 = .ok (.getfield 106, 3) := by decide +kernel
theorem dX8_settle_4 : decode cX8_settle 4 = .ok (.ifCond .eq 27, 3) := by decide +kernel
theorem dX8_settle_7 : decode cX8_settle 7 = .ok (.aload_n 0, 1) := by decide +kernel
theorem dX8_settle_8 : decode cX8_settle 8 = .ok (.iconst 0, 1) := by decide +kernel
theorem dX8_settle_9 : decode cX8_settle 9 = .ok (.putfield 106, 3) := by decide +kernel
theorem dX8_settle_12 : decode cX8_settle 12 = .ok (.aload_n 0, 1) := by decide +kernel
theorem dX8_settle_13 : decode cX8_settle 13 = .ok (.getfield 49, 3) := by decide +kernel
theorem dX8_settle_16 : decode cX8_settle 16 = .ok (.aload_n 0, 1) := by decide +kernel
theorem dX8_settle_17 : decode cX8_settle 17 = .ok (.getfield 14, 3) := by decide +kernel
theorem dX8_settle_20 : decode cX8_settle 20 = .ok (.aload_n 0, 1) := by decide +kernel
theorem dX8_settle_21 : decode cX8_settle 21 = .ok (.getfield 18, 3) := by decide +kernel
theorem dX8_settle_24 : decode cX8_settle 24 = .ok (.aload_n 0, 1) := by decide +kernel
theorem dX8_settle_25 : decode cX8_settle 25 = .ok (.getfield 29, 3) := by decide +kernel
theorem dX8_settle_28 : decode cX8_settle 28 = .ok (.invokevirtual 409, 3) := by decide +kernel
theorem dX8_settle_31 : decode cX8_settle 31 = .ok (.aload_n 0, 1) := by decide +kernel
theorem dX8_settle_32 : decode cX8_settle 32 = .ok (.aload_n 0, 1) := by decide +kernel
theorem dX8_settle_33 : decode cX8_settle 33 = .ok (.getfield 96, 3) := by decide +kernel
theorem dX8_settle_36 : decode cX8_settle 36 = .ok (.invokevirtual 183, 3) := by decide +kernel
theorem dX8_settle_39 : decode cX8_settle 39 = .ok (.invokevirtual 197, 3) := by decide +kernel
theorem dX8_settle_42 : decode cX8_settle 42 = .ok (.return_, 1) := by decide +kernel
theorem dX8_pollBy_0 : decode cX8_pollBy 0 = .ok (.iload_n 1, 1) := by decide +kernel
theorem dX8_pollBy_1 : decode cX8_pollBy 1 = .ok (.ifCond .ne 10, 3) := by decide +kernel
theorem dX8_pollBy_4 : decode cX8_pollBy 4 = .ok (.aload_n 0, 1) := by decide +kernel
theorem dX8_pollBy_5 : decode cX8_pollBy 5 = .ok (.getfield 58, 3) := by decide +kernel
theorem dX8_pollBy_8 : decode cX8_pollBy 8 = .ok (.goto 19, 3) := by decide +kernel
theorem dX8_pollBy_11 : decode cX8_pollBy 11 = .ok (.iload_n 1, 1) := by decide +kernel
theorem dX8_pollBy_12 : decode cX8_pollBy 12 = .ok (.iconst 1, 1) := by decide +kernel
theorem dX8_pollBy_13 : decode cX8_pollBy 13 = .ok (.if_icmp .ne 10, 3) := by decide +kernel
theorem dX8_pollBy_16 : decode cX8_pollBy 16 = .ok (.aload_n 0, 1) := by decide +kernel
theorem dX8_pollBy_17 : decode cX8_pollBy 17 = .ok (.getfield 62, 3) := by decide +kernel
theorem dX8_pollBy_20 : decode cX8_pollBy 20 = .ok (.goto 7, 3) := by decide +kernel
theorem dX8_pollBy_23 : decode cX8_pollBy 23 = .ok (.aload_n 0, 1) := by decide +kernel
theorem dX8_pollBy_24 : decode cX8_pollBy 24 = .ok (.getfield 65, 3) := by decide +kernel
theorem dX8_pollBy_27 : decode cX8_pollBy 27 = .ok (.areturn, 1) := by decide +kernel
theorem dX8_paidBy_0 : decode cX8_paidBy 0 = .ok (.aload_n 1, 1) := by decide +kernel
theorem dX8_paidBy_1 : decode cX8_paidBy 1 = .ok (.iconst 2, 1) := by decide +kernel
theorem dX8_paidBy_2 : decode cX8_paidBy 2 = .ok (.iaload, 1) := by decide +kernel
theorem dX8_paidBy_3 : decode cX8_paidBy 3 = .ok (.aload_n 0, 1) := by decide +kernel
theorem dX8_paidBy_4 : decode cX8_paidBy 4 = .ok (.aload_n 0, 1) := by decide +kernel
theorem dX8_paidBy_5 : decode cX8_paidBy 5 = .ok (.getfield 96, 3) := by decide +kernel
theorem dX8_paidBy_8 : decode cX8_paidBy 8 = .ok (.invokevirtual 183, 3) := by decide +kernel
theorem dX8_paidBy_11 : decode cX8_paidBy 11 = .ok (.iload_n 2, 1) := by decide +kernel
theorem dX8_paidBy_12 : decode cX8_paidBy 12 = .ok (.aload_n 1, 1) := by decide +kernel
theorem dX8_paidBy_13 : decode cX8_paidBy 13 = .ok (.iconst 3, 1) := by decide +kernel
theorem dX8_paidBy_14 : decode cX8_paidBy 14 = .ok (.iaload, 1) := by decide +kernel
theorem dX8_paidBy_15 : decode cX8_paidBy 15 = .ok (.invokevirtual 191, 3) := by decide +kernel
theorem dX8_paidBy_18 : decode cX8_paidBy 18 = .ok (.imul, 1) := by decide +kernel
theorem dX8_paidBy_19 : decode cX8_paidBy 19 = .ok (.ireturn, 1) := by decide +kernel
theorem dX8_paid_0 : decode cX8_paid 0 = .ok (.aload_n 0, 1) := by decide +kernel
theorem dX8_paid_1 : decode cX8_paid 1 = .ok (.aload_n 1, 1) := by decide +kernel
theorem dX8_paid_2 : decode cX8_paid 2 = .ok (.aload_n 1, 1) := by decide +kernel
theorem dX8_paid_3 : decode cX8_paid 3 = .ok (.aload_n 0, 1) := by decide +kernel
theorem dX8_paid_4 : decode cX8_paid 4 = .ok (.getfield 100, 3) := by decide +kernel
theorem dX8_paid_7 : decode cX8_paid 7 = .ok (.ifCond .ne 7, 3) := by decide +kernel
theorem dX8_paid_10 : decode cX8_paid 10 = .ok (.iconst 4, 1) := by decide +kernel
theorem dX8_paid_11 : decode cX8_paid 11 = .ok (.goto 4, 3) := by decide +kernel
theorem dX8_paid_14 : decode cX8_paid 14 = .ok (.iconst 5, 1) := by decide +kernel
theorem dX8_paid_15 : decode cX8_paid 15 = .ok (.iaload, 1) := by decide +kernel
theorem dX8_paid_16 : decode cX8_paid 16 = .ok (.invokevirtual 211, 3) := by decide +kernel
theorem dX8_paid_19 : decode cX8_paid 19 = .ok (.ireturn, 1) := by decide +kernel
theorem dX8_moneyBehind_0 : decode cX8_moneyBehind 0 = .ok (.aload_n 0, 1) := by decide +kernel
theorem dX8_moneyBehind_1 : decode cX8_moneyBehind 1 = .ok (.getfield 39, 3) := by decide +kernel
theorem dX8_moneyBehind_4 : decode cX8_moneyBehind 4 = .ok (.iload_n 1, 1) := by decide +kernel
theorem dX8_moneyBehind_5 : decode cX8_moneyBehind 5 = .ok (.iaload, 1) := by decide +kernel
theorem dX8_moneyBehind_6 : decode cX8_moneyBehind 6 = .ok (.istore_n 3, 1) := by decide +kernel
theorem dX8_moneyBehind_7 : decode cX8_moneyBehind 7 = .ok (.iconst 0, 1) := by decide +kernel
theorem dX8_moneyBehind_8 : decode cX8_moneyBehind 8 = .ok (.istore 4, 2) := by decide +kernel
theorem dX8_moneyBehind_10 : decode cX8_moneyBehind 10 = .ok (.iload 4, 2) := by decide +kernel
theorem dX8_moneyBehind_12 : decode cX8_moneyBehind 12 = .ok (.aload_n 0, 1) := by decide +kernel
theorem dX8_moneyBehind_13 : decode cX8_moneyBehind 13 = .ok (.getfield 33, 3) := by decide +kernel
theorem dX8_moneyBehind_16 : decode cX8_moneyBehind 16 = .ok (.getfield 182, 3) := by decide +kernel
theorem dX8_moneyBehind_19 : decode cX8_moneyBehind 19 = .ok (.if_icmp .ge 66, 3) := by decide +kernel
theorem dX8_moneyBehind_22 : decode cX8_moneyBehind 22 = .ok (.aload_n 0, 1) := by decide +kernel
theorem dX8_moneyBehind_23 : decode cX8_moneyBehind 23 = .ok (.getfield 33, 3) := by decide +kernel
theorem dX8_moneyBehind_26 : decode cX8_moneyBehind 26 = .ok (.getfield 207, 3) := by decide +kernel
theorem dX8_moneyBehind_29 : decode cX8_moneyBehind 29 = .ok (.iload 4, 2) := by decide +kernel
theorem dX8_moneyBehind_31 : decode cX8_moneyBehind 31 = .ok (.aaload, 1) := by decide +kernel
theorem dX8_moneyBehind_32 : decode cX8_moneyBehind 32 = .ok (.astore 5, 2) := by decide +kernel
theorem dX8_moneyBehind_34 : decode cX8_moneyBehind 34 = .ok (.aload 5, 2) := by decide +kernel
theorem dX8_moneyBehind_36 : decode cX8_moneyBehind 36 = .ok (.iconst 5, 1) := by decide +kernel
theorem dX8_moneyBehind_37 : decode cX8_moneyBehind 37 = .ok (.iaload, 1) := by decide +kernel
theorem dX8_moneyBehind_38 : decode cX8_moneyBehind 38 = .ok (.iload_n 2, 1) := by decide +kernel
theorem dX8_moneyBehind_39 : decode cX8_moneyBehind 39 = .ok (.if_icmp .le 6, 3) := by decide +kernel
theorem dX8_moneyBehind_42 : decode cX8_moneyBehind 42 = .ok (.goto 37, 3) := by decide +kernel
theorem dX8_moneyBehind_45 : decode cX8_moneyBehind 45 = .ok (.aload 5, 2) := by decide +kernel
theorem dX8_moneyBehind_47 : decode cX8_moneyBehind 47 = .ok (.iconst 0, 1) := by decide +kernel
theorem dX8_moneyBehind_48 : decode cX8_moneyBehind 48 = .ok (.iaload, 1) := by decide +kernel
theorem dX8_moneyBehind_49 : decode cX8_moneyBehind 49 = .ok (.iload_n 1, 1) := by decide +kernel
theorem dX8_moneyBehind_50 : decode cX8_moneyBehind 50 = .ok (.if_icmp .ne 12, 3) := by decide +kernel
theorem dX8_moneyBehind_53 : decode cX8_moneyBehind 53 = .ok (.iload_n 3, 1) := by decide +kernel
theorem dX8_moneyBehind_54 : decode cX8_moneyBehind 54 = .ok (.aload_n 0, 1) := by decide +kernel
theorem dX8_moneyBehind_55 : decode cX8_moneyBehind 55 = .ok (.aload 5, 2) := by decide +kernel
theorem dX8_moneyBehind_57 : decode cX8_moneyBehind 57 = .ok (.invokevirtual 413, 3) := by decide +kernel
theorem dX8_moneyBehind_60 : decode cX8_moneyBehind 60 = .ok (.isub, 1) := by decide +kernel
theorem dX8_moneyBehind_61 : decode cX8_moneyBehind 61 = .ok (.istore_n 3, 1) := by decide +kernel
theorem dX8_moneyBehind_62 : decode cX8_moneyBehind 62 = .ok (.aload 5, 2) := by decide +kernel
theorem dX8_moneyBehind_64 : decode cX8_moneyBehind 64 = .ok (.iconst 1, 1) := by decide +kernel
theorem dX8_moneyBehind_65 : decode cX8_moneyBehind 65 = .ok (.iaload, 1) := by decide +kernel
theorem dX8_moneyBehind_66 : decode cX8_moneyBehind 66 = .ok (.iload_n 1, 1) := by decide +kernel
theorem dX8_moneyBehind_67 : decode cX8_moneyBehind 67 = .ok (.if_icmp .ne 12, 3) := by decide +kernel
theorem dX8_moneyBehind_70 : decode cX8_moneyBehind 70 = .ok (.iload_n 3, 1) := by decide +kernel
theorem dX8_moneyBehind_71 : decode cX8_moneyBehind 71 = .ok (.aload_n 0, 1) := by decide +kernel
theorem dX8_moneyBehind_72 : decode cX8_moneyBehind 72 = .ok (.aload 5, 2) := by decide +kernel
theorem dX8_moneyBehind_74 : decode cX8_moneyBehind 74 = .ok (.invokevirtual 413, 3) := by decide +kernel
theorem dX8_moneyBehind_77 : decode cX8_moneyBehind 77 = .ok (.iadd, 1) := by decide +kernel
theorem dX8_moneyBehind_78 : decode cX8_moneyBehind 78 = .ok (.istore_n 3, 1) := by decide +kernel
theorem dX8_moneyBehind_79 : decode cX8_moneyBehind 79 = .ok (.iinc 4 1, 3) := by decide +kernel
theorem dX8_moneyBehind_82 : decode cX8_moneyBehind 82 = .ok (.goto (-72), 3) := by decide +kernel
theorem dX8_moneyBehind_85 : decode cX8_moneyBehind 85 = .ok (.iload_n 3, 1) := by decide +kernel
theorem dX8_moneyBehind_86 : decode cX8_moneyBehind 86 = .ok (.ireturn, 1) := by decide +kernel
theorem dX8_firstRuin_0 : decode cX8_firstRuin 0 = .ok (.aload_n 0, 1) := by decide +kernel
theorem dX8_firstRuin_1 : decode cX8_firstRuin 1 = .ok (.getfield 39, 3) := by decide +kernel
theorem dX8_firstRuin_4 : decode cX8_firstRuin 4 = .ok (.iconst 0, 1) := by decide +kernel
theorem dX8_firstRuin_5 : decode cX8_firstRuin 5 = .ok (.aload_n 0, 1) := by decide +kernel
theorem dX8_firstRuin_6 : decode cX8_firstRuin 6 = .ok (.getfield 43, 3) := by decide +kernel
theorem dX8_firstRuin_9 : decode cX8_firstRuin 9 = .ok (.iconst 0, 1) := by decide +kernel
theorem dX8_firstRuin_10 : decode cX8_firstRuin 10 = .ok (.bipush 8, 2) := by decide +kernel
theorem dX8_firstRuin_12 : decode cX8_firstRuin 12 = .ok (.invokestatic 314, 3) := by decide +kernel
theorem dX8_firstRuin_15 : decode cX8_firstRuin 15 = .ok (.iconst 0, 1) := by decide +kernel
theorem dX8_firstRuin_16 : decode cX8_firstRuin 16 = .ok (.istore_n 1, 1) := by decide +kernel
theorem dX8_firstRuin_17 : decode cX8_firstRuin 17 = .ok (.iload_n 1, 1) := by decide +kernel
theorem dX8_firstRuin_18 : decode cX8_firstRuin 18 = .ok (.bipush 10, 2) := by decide +kernel
theorem dX8_firstRuin_20 : decode cX8_firstRuin 20 = .ok (.if_icmp .ge 94, 3) := by decide +kernel
theorem dX8_firstRuin_23 : decode cX8_firstRuin 23 = .ok (.iconst 0, 1) := by decide +kernel
theorem dX8_firstRuin_24 : decode cX8_firstRuin 24 = .ok (.istore_n 2, 1) := by decide +kernel
theorem dX8_firstRuin_25 : decode cX8_firstRuin 25 = .ok (.iload_n 2, 1) := by decide +kernel
theorem dX8_firstRuin_26 : decode cX8_firstRuin 26 = .ok (.aload_n 0, 1) := by decide +kernel
theorem dX8_firstRuin_27 : decode cX8_firstRuin 27 = .ok (.getfield 33, 3) := by decide +kernel
theorem dX8_firstRuin_30 : decode cX8_firstRuin 30 = .ok (.getfield 182, 3) := by decide +kernel
theorem dX8_firstRuin_33 : decode cX8_firstRuin 33 = .ok (.if_icmp .ge 75, 3) := by decide +kernel
theorem dX8_firstRuin_36 : decode cX8_firstRuin 36 = .ok (.aload_n 0, 1) := by decide +kernel
theorem dX8_firstRuin_37 : decode cX8_firstRuin 37 = .ok (.getfield 33, 3) := by decide +kernel
theorem dX8_firstRuin_40 : decode cX8_firstRuin 40 = .ok (.getfield 207, 3) := by decide +kernel
theorem dX8_firstRuin_43 : decode cX8_firstRuin 43 = .ok (.iload_n 2, 1) := by decide +kernel
theorem dX8_firstRuin_44 : decode cX8_firstRuin 44 = .ok (.aaload, 1) := by decide +kernel
theorem dX8_firstRuin_45 : decode cX8_firstRuin 45 = .ok (.astore_n 3, 1) := by decide +kernel
theorem dX8_firstRuin_46 : decode cX8_firstRuin 46 = .ok (.aload_n 3, 1) := by decide +kernel
theorem dX8_firstRuin_47 : decode cX8_firstRuin 47 = .ok (.iconst 5, 1) := by decide +kernel
theorem dX8_firstRuin_48 : decode cX8_firstRuin 48 = .ok (.iaload, 1) := by decide +kernel
theorem dX8_firstRuin_49 : decode cX8_firstRuin 49 = .ok (.iload_n 1, 1) := by decide +kernel
theorem dX8_firstRuin_50 : decode cX8_firstRuin 50 = .ok (.if_icmp .eq 6, 3) := by decide +kernel
theorem dX8_firstRuin_53 : decode cX8_firstRuin 53 = .ok (.goto 49, 3) := by decide +kernel
theorem dX8_firstRuin_56 : decode cX8_firstRuin 56 = .ok (.aload_n 0, 1) := by decide +kernel
theorem dX8_firstRuin_57 : decode cX8_firstRuin 57 = .ok (.aload_n 3, 1) := by decide +kernel
theorem dX8_firstRuin_58 : decode cX8_firstRuin 58 = .ok (.invokevirtual 413, 3) := by decide +kernel
theorem dX8_firstRuin_61 : decode cX8_firstRuin 61 = .ok (.istore 4, 2) := by decide +kernel
theorem dX8_firstRuin_63 : decode cX8_firstRuin 63 = .ok (.aload_n 0, 1) := by decide +kernel
theorem dX8_firstRuin_64 : decode cX8_firstRuin 64 = .ok (.getfield 43, 3) := by decide +kernel
theorem dX8_firstRuin_67 : decode cX8_firstRuin 67 = .ok (.aload_n 3, 1) := by decide +kernel
theorem dX8_firstRuin_68 : decode cX8_firstRuin 68 = .ok (.iconst 0, 1) := by decide +kernel
theorem dX8_firstRuin_69 : decode cX8_firstRuin 69 = .ok (.iaload, 1) := by decide +kernel
theorem dX8_firstRuin_70 : decode cX8_firstRuin 70 = .ok (.dup2, 1) := by decide +kernel
theorem dX8_firstRuin_71 : decode cX8_firstRuin 71 = .ok (.iaload, 1) := by decide +kernel
theorem dX8_firstRuin_72 : decode cX8_firstRuin 72 = .ok (.iload 4, 2) := by decide +kernel
theorem dX8_firstRuin_74 : decode cX8_firstRuin 74 = .ok (.isub, 1) := by decide +kernel
theorem dX8_firstRuin_75 : decode cX8_firstRuin 75 = .ok (.iastore, 1) := by decide +kernel
theorem dX8_firstRuin_76 : decode cX8_firstRuin 76 = .ok (.aload_n 0, 1) := by decide +kernel
theorem dX8_firstRuin_77 : decode cX8_firstRuin 77 = .ok (.getfield 43, 3) := by decide +kernel
theorem dX8_firstRuin_80 : decode cX8_firstRuin 80 = .ok (.aload_n 3, 1) := by decide +kernel
theorem dX8_firstRuin_81 : decode cX8_firstRuin 81 = .ok (.iconst 1, 1) := by decide +kernel
theorem dX8_firstRuin_82 : decode cX8_firstRuin 82 = .ok (.iaload, 1) := by decide +kernel
theorem dX8_firstRuin_83 : decode cX8_firstRuin 83 = .ok (.dup2, 1) := by decide +kernel
theorem dX8_firstRuin_84 : decode cX8_firstRuin 84 = .ok (.iaload, 1) := by decide +kernel
theorem dX8_firstRuin_85 : decode cX8_firstRuin 85 = .ok (.iload 4, 2) := by decide +kernel
theorem dX8_firstRuin_87 : decode cX8_firstRuin 87 = .ok (.iadd, 1) := by decide +kernel
theorem dX8_firstRuin_88 : decode cX8_firstRuin 88 = .ok (.iastore, 1) := by decide +kernel
theorem dX8_firstRuin_89 : decode cX8_firstRuin 89 = .ok (.aload_n 0, 1) := by decide +kernel
theorem dX8_firstRuin_90 : decode cX8_firstRuin 90 = .ok (.getfield 43, 3) := by decide +kernel
theorem dX8_firstRuin_93 : decode cX8_firstRuin 93 = .ok (.aload_n 3, 1) := by decide +kernel
theorem dX8_firstRuin_94 : decode cX8_firstRuin 94 = .ok (.iconst 0, 1) := by decide +kernel
theorem dX8_firstRuin_95 : decode cX8_firstRuin 95 = .ok (.iaload, 1) := by decide +kernel
theorem dX8_firstRuin_96 : decode cX8_firstRuin 96 = .ok (.iaload, 1) := by decide +kernel
theorem dX8_firstRuin_97 : decode cX8_firstRuin 97 = .ok (.ifCond .ge 5, 3) := by decide +kernel
theorem dX8_firstRuin_100 : decode cX8_firstRuin 100 = .ok (.iload_n 2, 1) := by decide +kernel
theorem dX8_firstRuin_101 : decode cX8_firstRuin 101 = .ok (.ireturn, 1) := by decide +kernel
theorem dX8_firstRuin_102 : decode cX8_firstRuin 102 = .ok (.iinc 2 1, 3) := by decide +kernel
theorem dX8_firstRuin_105 : decode cX8_firstRuin 105 = .ok (.goto (-80), 3) := by decide +kernel
theorem dX8_firstRuin_108 : decode cX8_firstRuin 108 = .ok (.iinc 1 1, 3) := by decide +kernel
theorem dX8_firstRuin_111 : decode cX8_firstRuin 111 = .ok (.goto (-94), 3) := by decide +kernel
theorem dX8_firstRuin_114 : decode cX8_firstRuin 114 = .ok (.iconst (-1), 1) := by decide +kernel
theorem dX8_firstRuin_115 : decode cX8_firstRuin 115 = .ok (.ireturn, 1) := by decide +kernel
theorem dX8_greatest_0 : decode cX8_greatest 0 = .ok (.iload_n 3, 1) := by decide +kernel
theorem dX8_greatest_1 : decode cX8_greatest 1 = .ok (.istore 4, 2) := by decide +kernel
theorem dX8_greatest_3 : decode cX8_greatest 3 = .ok (.iconst 0, 1) := by decide +kernel
theorem dX8_greatest_4 : decode cX8_greatest 4 = .ok (.istore 5, 2) := by decide +kernel
theorem dX8_greatest_6 : decode cX8_greatest 6 = .ok (.iload 5, 2) := by decide +kernel
theorem dX8_greatest_8 : decode cX8_greatest 8 = .ok (.iload_n 2, 1) := by decide +kernel
theorem dX8_greatest_9 : decode cX8_greatest 9 = .ok (.if_icmp .ge 34, 3) := by decide +kernel
theorem dX8_greatest_12 : decode cX8_greatest 12 = .ok (.iload 4, 2) := by decide +kernel
theorem dX8_greatest_14 : decode cX8_greatest 14 = .ok (.iconst (-1), 1) := by decide +kernel
theorem dX8_greatest_15 : decode cX8_greatest 15 = .ok (.if_icmp .eq 18, 3) := by decide +kernel
theorem dX8_greatest_18 : decode cX8_greatest 18 = .ok (.aload_n 0, 1) := by decide +kernel
theorem dX8_greatest_19 : decode cX8_greatest 19 = .ok (.iload_n 1, 1) := by decide +kernel
theorem dX8_greatest_20 : decode cX8_greatest 20 = .ok (.iload 5, 2) := by decide +kernel
theorem dX8_greatest_22 : decode cX8_greatest 22 = .ok (.iadd, 1) := by decide +kernel
theorem dX8_greatest_23 : decode cX8_greatest 23 = .ok (.iaload, 1) := by decide +kernel
theorem dX8_greatest_24 : decode cX8_greatest 24 = .ok (.aload_n 0, 1) := by decide +kernel
theorem dX8_greatest_25 : decode cX8_greatest 25 = .ok (.iload_n 1, 1) := by decide +kernel
theorem dX8_greatest_26 : decode cX8_greatest 26 = .ok (.iload 4, 2) := by decide +kernel
theorem dX8_greatest_28 : decode cX8_greatest 28 = .ok (.iadd, 1) := by decide +kernel
theorem dX8_greatest_29 : decode cX8_greatest 29 = .ok (.iaload, 1) := by decide +kernel
theorem dX8_greatest_30 : decode cX8_greatest 30 = .ok (.if_icmp .le 7, 3) := by decide +kernel
theorem dX8_greatest_33 : decode cX8_greatest 33 = .ok (.iload 5, 2) := by decide +kernel
theorem dX8_greatest_35 : decode cX8_greatest 35 = .ok (.istore 4, 2) := by decide +kernel
theorem dX8_greatest_37 : decode cX8_greatest 37 = .ok (.iinc 5 1, 3) := by decide +kernel
theorem dX8_greatest_40 : decode cX8_greatest 40 = .ok (.goto (-34), 3) := by decide +kernel
theorem dX8_greatest_43 : decode cX8_greatest 43 = .ok (.iload 4, 2) := by decide +kernel
theorem dX8_greatest_45 : decode cX8_greatest 45 = .ok (.ireturn, 1) := by decide +kernel
theorem dX8_commonDivisor_0 : decode cX8_commonDivisor 0 = .ok (.lload_n 0, 1) := by decide +kernel
theorem dX8_commonDivisor_1 : decode cX8_commonDivisor 1 = .ok (.lstore 4, 2) := by decide +kernel
theorem dX8_commonDivisor_3 : decode cX8_commonDivisor 3 = .ok (.lload_n 2, 1) := by decide +kernel
theorem dX8_commonDivisor_4 : decode cX8_commonDivisor 4 = .ok (.lstore 6, 2) := by decide +kernel
theorem dX8_commonDivisor_6 : decode cX8_commonDivisor 6 = .ok (.iconst 0, 1) := by decide +kernel
theorem dX8_commonDivisor_7 : decode cX8_commonDivisor 7 = .ok (.istore 8, 2) := by decide +kernel
theorem dX8_commonDivisor_9 : decode cX8_commonDivisor 9 = .ok (.iload 8, 2) := by decide +kernel
theorem dX8_commonDivisor_11 : decode cX8_commonDivisor 11 = .ok (.sipush 200, 3) := by decide +kernel
theorem dX8_commonDivisor_14 : decode cX8_commonDivisor 14 = .ok (.if_icmp .ge 31, 3) := by decide +kernel
theorem dX8_commonDivisor_17 : decode cX8_commonDivisor 17 = .ok (.lload 6, 2) := by decide +kernel
theorem dX8_commonDivisor_19 : decode cX8_commonDivisor 19 = .ok (.lconst 0, 1) := by decide +kernel
theorem dX8_commonDivisor_20 : decode cX8_commonDivisor 20 = .ok (.lcmp, 1) := by decide +kernel
theorem dX8_commonDivisor_21 : decode cX8_commonDivisor 21 = .ok (.ifCond .eq 24, 3) := by decide +kernel
theorem dX8_commonDivisor_24 : decode cX8_commonDivisor 24 = .ok (.lload 4, 2) := by decide +kernel
theorem dX8_commonDivisor_26 : decode cX8_commonDivisor 26 = .ok (.lload 6, 2) := by decide +kernel
theorem dX8_commonDivisor_28 : decode cX8_commonDivisor 28 = .ok (.lrem, 1) := by decide +kernel
theorem dX8_commonDivisor_29 : decode cX8_commonDivisor 29 = .ok (.lstore 9, 2) := by decide +kernel
theorem dX8_commonDivisor_31 : decode cX8_commonDivisor 31 = .ok (.lload 6, 2) := by decide +kernel
theorem dX8_commonDivisor_33 : decode cX8_commonDivisor 33 = .ok (.lstore 4, 2) := by decide +kernel
theorem dX8_commonDivisor_35 : decode cX8_commonDivisor 35 = .ok (.lload 9, 2) := by decide +kernel
theorem dX8_commonDivisor_37 : decode cX8_commonDivisor 37 = .ok (.lstore 6, 2) := by decide +kernel
theorem dX8_commonDivisor_39 : decode cX8_commonDivisor 39 = .ok (.iinc 8 1, 3) := by decide +kernel
theorem dX8_commonDivisor_42 : decode cX8_commonDivisor 42 = .ok (.goto (-33), 3) := by decide +kernel
theorem dX8_commonDivisor_45 : decode cX8_commonDivisor 45 = .ok (.lload 4, 2) := by decide +kernel
theorem dX8_commonDivisor_47 : decode cX8_commonDivisor 47 = .ok (.lconst 1, 1) := by decide +kernel
theorem dX8_commonDivisor_48 : decode cX8_commonDivisor 48 = .ok (.lcmp, 1) := by decide +kernel
theorem dX8_commonDivisor_49 : decode cX8_commonDivisor 49 = .ok (.ifCond .ge 7, 3) := by decide +kernel
theorem dX8_commonDivisor_52 : decode cX8_commonDivisor 52 = .ok (.lconst 1, 1) := by decide +kernel
theorem dX8_commonDivisor_53 : decode cX8_commonDivisor 53 = .ok (.goto 5, 3) := by decide +kernel
theorem dX8_commonDivisor_56 : decode cX8_commonDivisor 56 = .ok (.lload 4, 2) := by decide +kernel
theorem dX8_commonDivisor_58 : decode cX8_commonDivisor 58 = .ok (.lreturn, 1) := by decide +kernel
