/-! part 39: methods 159..: laid by wip/flat/dec.py -/
def zt_159 : zx_MT := (8, yX8_item, cX8_item, 4, (some FieldType.boolean), 0, 0)
theorem zm_159 : zx_m 159 = zt_159 := rfl
theorem dX8_item_r0 : zdcP cX8_item 0 [(.aload_n 0, 1), (.iconst 0, 1), (.invokevirtual 183, 3), (.ifCond .ne 11, 3), (.aload_n 0, 1), (.iconst 1, 1), (.invokevirtual 183, 3), (.ifCond .eq 12, 3), (.aload_n 0, 1), (.getfield 108, 3), (.bipush 24, 2), (.if_icmp .eq 35, 3), (.aload_n 0, 1), (.iconst 2, 1), (.invokevirtual 183, 3), (.ifCond .eq 10, 3)] := zdcA_ok (by decide +kernel)
theorem dX8_item_0 : decode cX8_item 0 = .ok (.aload_n 0, 1) := dX8_item_r0.1
theorem dX8_item_1 : decode cX8_item 1 = .ok (.iconst 0, 1) := dX8_item_r0.2.1
theorem dX8_item_2 : decode cX8_item 2 = .ok (.invokevirtual 183, 3) := dX8_item_r0.2.2.1
theorem dX8_item_5 : decode cX8_item 5 = .ok (.ifCond .ne 11, 3) := dX8_item_r0.2.2.2.1
theorem dX8_item_8 : decode cX8_item 8 = .ok (.aload_n 0, 1) := dX8_item_r0.2.2.2.2.1
theorem dX8_item_9 : decode cX8_item 9 = .ok (.iconst 1, 1) := dX8_item_r0.2.2.2.2.2.1
theorem dX8_item_10 : decode cX8_item 10 = .ok (.invokevirtual 183, 3) := dX8_item_r0.2.2.2.2.2.2.1
theorem dX8_item_13 : decode cX8_item 13 = .ok (.ifCond .eq 12, 3) := dX8_item_r0.2.2.2.2.2.2.2.1
theorem dX8_item_16 : decode cX8_item 16 = .ok (.aload_n 0, 1) := dX8_item_r0.2.2.2.2.2.2.2.2.1
theorem dX8_item_17 : decode cX8_item 17 = .ok (.getfield 108, 3) := dX8_item_r0.2.2.2.2.2.2.2.2.2.1
theorem dX8_item_20 : decode cX8_item 20 = .ok (.bipush 24, 2) := dX8_item_r0.2.2.2.2.2.2.2.2.2.2.1
theorem dX8_item_22 : decode cX8_item 22 = .ok (.if_icmp .eq 35, 3) := dX8_item_r0.2.2.2.2.2.2.2.2.2.2.2.1
theorem dX8_item_25 : decode cX8_item 25 = .ok (.aload_n 0, 1) := dX8_item_r0.2.2.2.2.2.2.2.2.2.2.2.2.1
theorem dX8_item_26 : decode cX8_item 26 = .ok (.iconst 2, 1) := dX8_item_r0.2.2.2.2.2.2.2.2.2.2.2.2.2.1
theorem dX8_item_27 : decode cX8_item 27 = .ok (.invokevirtual 183, 3) := dX8_item_r0.2.2.2.2.2.2.2.2.2.2.2.2.2.2.1
theorem dX8_item_30 : decode cX8_item 30 = .ok (.ifCond .eq 10, 3) := dX8_item_r0.2.2.2.2.2.2.2.2.2.2.2.2.2.2.2.1
theorem dX8_item_r33 : zdcP cX8_item 33 [(.aload_n 0, 1), (.getfield 108, 3), (.ifCond .eq 20, 3), (.aload_n 0, 1), (.iconst 3, 1), (.invokevirtual 183, 3), (.ifCond .eq 21, 3), (.aload_n 0, 1), (.getfield 105, 3), (.bipush 6, 2), (.if_icmp .ne 12, 3), (.aload_n 0, 1), (.aload_n 0, 1), (.getfield 162, 3), (.invokevirtual 177, 3), (.ireturn, 1)] := zdcA_ok (by decide +kernel)
theorem dX8_item_33 : decode cX8_item 33 = .ok (.aload_n 0, 1) := dX8_item_r33.1
theorem dX8_item_34 : decode cX8_item 34 = .ok (.getfield 108, 3) := dX8_item_r33.2.1
theorem dX8_item_37 : decode cX8_item 37 = .ok (.ifCond .eq 20, 3) := dX8_item_r33.2.2.1
theorem dX8_item_40 : decode cX8_item 40 = .ok (.aload_n 0, 1) := dX8_item_r33.2.2.2.1
theorem dX8_item_41 : decode cX8_item 41 = .ok (.iconst 3, 1) := dX8_item_r33.2.2.2.2.1
theorem dX8_item_42 : decode cX8_item 42 = .ok (.invokevirtual 183, 3) := dX8_item_r33.2.2.2.2.2.1
theorem dX8_item_45 : decode cX8_item 45 = .ok (.ifCond .eq 21, 3) := dX8_item_r33.2.2.2.2.2.2.1
theorem dX8_item_48 : decode cX8_item 48 = .ok (.aload_n 0, 1) := dX8_item_r33.2.2.2.2.2.2.2.1
theorem dX8_item_49 : decode cX8_item 49 = .ok (.getfield 105, 3) := dX8_item_r33.2.2.2.2.2.2.2.2.1
theorem dX8_item_52 : decode cX8_item 52 = .ok (.bipush 6, 2) := dX8_item_r33.2.2.2.2.2.2.2.2.2.1
theorem dX8_item_54 : decode cX8_item 54 = .ok (.if_icmp .ne 12, 3) := dX8_item_r33.2.2.2.2.2.2.2.2.2.2.1
theorem dX8_item_57 : decode cX8_item 57 = .ok (.aload_n 0, 1) := dX8_item_r33.2.2.2.2.2.2.2.2.2.2.2.1
theorem dX8_item_58 : decode cX8_item 58 = .ok (.aload_n 0, 1) := dX8_item_r33.2.2.2.2.2.2.2.2.2.2.2.2.1
theorem dX8_item_59 : decode cX8_item 59 = .ok (.getfield 162, 3) := dX8_item_r33.2.2.2.2.2.2.2.2.2.2.2.2.2.1
theorem dX8_item_62 : decode cX8_item 62 = .ok (.invokevirtual 177, 3) := dX8_item_r33.2.2.2.2.2.2.2.2.2.2.2.2.2.2.1
theorem dX8_item_65 : decode cX8_item 65 = .ok (.ireturn, 1) := dX8_item_r33.2.2.2.2.2.2.2.2.2.2.2.2.2.2.2.1
theorem dX8_item_r66 : zdcP cX8_item 66 [(.aload_n 0, 1), (.invokevirtual 186, 3), (.istore_n 1, 1), (.iload_n 1, 1), (.iconst (-1), 1), (.if_icmp .ne 5, 3), (.iconst 0, 1), (.ireturn, 1), (.iconst 0, 1), (.istore_n 2, 1), (.iload_n 2, 1), (.aload_n 0, 1), (.getfield 78, 3), (.iload_n 1, 1), (.iaload, 1), (.if_icmp .ge 102, 3)] := zdcA_ok (by decide +kernel)
theorem dX8_item_66 : decode cX8_item 66 = .ok (.aload_n 0, 1) := dX8_item_r66.1
theorem dX8_item_67 : decode cX8_item 67 = .ok (.invokevirtual 186, 3) := dX8_item_r66.2.1
theorem dX8_item_70 : decode cX8_item 70 = .ok (.istore_n 1, 1) := dX8_item_r66.2.2.1
theorem dX8_item_71 : decode cX8_item 71 = .ok (.iload_n 1, 1) := dX8_item_r66.2.2.2.1
theorem dX8_item_72 : decode cX8_item 72 = .ok (.iconst (-1), 1) := dX8_item_r66.2.2.2.2.1
theorem dX8_item_73 : decode cX8_item 73 = .ok (.if_icmp .ne 5, 3) := dX8_item_r66.2.2.2.2.2.1
theorem dX8_item_76 : decode cX8_item 76 = .ok (.iconst 0, 1) := dX8_item_r66.2.2.2.2.2.2.1
theorem dX8_item_77 : decode cX8_item 77 = .ok (.ireturn, 1) := dX8_item_r66.2.2.2.2.2.2.2.1
theorem dX8_item_78 : decode cX8_item 78 = .ok (.iconst 0, 1) := dX8_item_r66.2.2.2.2.2.2.2.2.1
theorem dX8_item_79 : decode cX8_item 79 = .ok (.istore_n 2, 1) := dX8_item_r66.2.2.2.2.2.2.2.2.2.1
theorem dX8_item_80 : decode cX8_item 80 = .ok (.iload_n 2, 1) := dX8_item_r66.2.2.2.2.2.2.2.2.2.2.1
theorem dX8_item_81 : decode cX8_item 81 = .ok (.aload_n 0, 1) := dX8_item_r66.2.2.2.2.2.2.2.2.2.2.2.1
theorem dX8_item_82 : decode cX8_item 82 = .ok (.getfield 78, 3) := dX8_item_r66.2.2.2.2.2.2.2.2.2.2.2.2.1
theorem dX8_item_85 : decode cX8_item 85 = .ok (.iload_n 1, 1) := dX8_item_r66.2.2.2.2.2.2.2.2.2.2.2.2.2.1
theorem dX8_item_86 : decode cX8_item 86 = .ok (.iaload, 1) := dX8_item_r66.2.2.2.2.2.2.2.2.2.2.2.2.2.2.1
theorem dX8_item_87 : decode cX8_item 87 = .ok (.if_icmp .ge 102, 3) := dX8_item_r66.2.2.2.2.2.2.2.2.2.2.2.2.2.2.2.1
theorem dX8_item_r90 : zdcP cX8_item 90 [(.iload_n 2, 1), (.ifCond .le 53, 3), (.aload_n 0, 1), (.getfield 162, 3), (.aload_n 0, 1), (.getfield 165, 3), (.if_icmp .ge 23, 3), (.aload_n 0, 1), (.getfield 68, 3), (.aload_n 0, 1), (.getfield 168, 3), (.aload_n 0, 1), (.getfield 162, 3), (.iadd, 1), (.laload, 1), (.l2i, 1)] := zdcA_ok (by decide +kernel)
theorem dX8_item_90 : decode cX8_item 90 = .ok (.iload_n 2, 1) := dX8_item_r90.1
theorem dX8_item_91 : decode cX8_item 91 = .ok (.ifCond .le 53, 3) := dX8_item_r90.2.1
theorem dX8_item_94 : decode cX8_item 94 = .ok (.aload_n 0, 1) := dX8_item_r90.2.2.1
theorem dX8_item_95 : decode cX8_item 95 = .ok (.getfield 162, 3) := dX8_item_r90.2.2.2.1
theorem dX8_item_98 : decode cX8_item 98 = .ok (.aload_n 0, 1) := dX8_item_r90.2.2.2.2.1
theorem dX8_item_99 : decode cX8_item 99 = .ok (.getfield 165, 3) := dX8_item_r90.2.2.2.2.2.1
theorem dX8_item_102 : decode cX8_item 102 = .ok (.if_icmp .ge 23, 3) := dX8_item_r90.2.2.2.2.2.2.1
theorem dX8_item_105 : decode cX8_item 105 = .ok (.aload_n 0, 1) := dX8_item_r90.2.2.2.2.2.2.2.1
theorem dX8_item_106 : decode cX8_item 106 = .ok (.getfield 68, 3) := dX8_item_r90.2.2.2.2.2.2.2.2.1
theorem dX8_item_109 : decode cX8_item 109 = .ok (.aload_n 0, 1) := dX8_item_r90.2.2.2.2.2.2.2.2.2.1
theorem dX8_item_110 : decode cX8_item 110 = .ok (.getfield 168, 3) := dX8_item_r90.2.2.2.2.2.2.2.2.2.2.1
theorem dX8_item_113 : decode cX8_item 113 = .ok (.aload_n 0, 1) := dX8_item_r90.2.2.2.2.2.2.2.2.2.2.2.1
theorem dX8_item_114 : decode cX8_item 114 = .ok (.getfield 162, 3) := dX8_item_r90.2.2.2.2.2.2.2.2.2.2.2.2.1
theorem dX8_item_117 : decode cX8_item 117 = .ok (.iadd, 1) := dX8_item_r90.2.2.2.2.2.2.2.2.2.2.2.2.2.1
theorem dX8_item_118 : decode cX8_item 118 = .ok (.laload, 1) := dX8_item_r90.2.2.2.2.2.2.2.2.2.2.2.2.2.2.1
theorem dX8_item_119 : decode cX8_item 119 = .ok (.l2i, 1) := dX8_item_r90.2.2.2.2.2.2.2.2.2.2.2.2.2.2.2.1
theorem dX8_item_r120 : zdcP cX8_item 120 [(.bipush 32, 2), (.if_icmp .eq 12, 3), (.aload_n 0, 1), (.aload_n 0, 1), (.getfield 162, 3), (.invokevirtual 177, 3), (.ireturn, 1), (.aload_n 0, 1), (.dup, 1), (.getfield 162, 3), (.iconst 1, 1), (.iadd, 1), (.putfield 162, 3), (.aload_n 0, 1), (.getfield 162, 3), (.istore_n 3, 1)] := zdcA_ok (by decide +kernel)
theorem dX8_item_120 : decode cX8_item 120 = .ok (.bipush 32, 2) := dX8_item_r120.1
theorem dX8_item_122 : decode cX8_item 122 = .ok (.if_icmp .eq 12, 3) := dX8_item_r120.2.1
theorem dX8_item_125 : decode cX8_item 125 = .ok (.aload_n 0, 1) := dX8_item_r120.2.2.1
theorem dX8_item_126 : decode cX8_item 126 = .ok (.aload_n 0, 1) := dX8_item_r120.2.2.2.1
theorem dX8_item_127 : decode cX8_item 127 = .ok (.getfield 162, 3) := dX8_item_r120.2.2.2.2.1
theorem dX8_item_130 : decode cX8_item 130 = .ok (.invokevirtual 177, 3) := dX8_item_r120.2.2.2.2.2.1
theorem dX8_item_133 : decode cX8_item 133 = .ok (.ireturn, 1) := dX8_item_r120.2.2.2.2.2.2.1
theorem dX8_item_134 : decode cX8_item 134 = .ok (.aload_n 0, 1) := dX8_item_r120.2.2.2.2.2.2.2.1
theorem dX8_item_135 : decode cX8_item 135 = .ok (.dup, 1) := dX8_item_r120.2.2.2.2.2.2.2.2.1
theorem dX8_item_136 : decode cX8_item 136 = .ok (.getfield 162, 3) := dX8_item_r120.2.2.2.2.2.2.2.2.2.1
theorem dX8_item_139 : decode cX8_item 139 = .ok (.iconst 1, 1) := dX8_item_r120.2.2.2.2.2.2.2.2.2.2.1
theorem dX8_item_140 : decode cX8_item 140 = .ok (.iadd, 1) := dX8_item_r120.2.2.2.2.2.2.2.2.2.2.2.1
theorem dX8_item_141 : decode cX8_item 141 = .ok (.putfield 162, 3) := dX8_item_r120.2.2.2.2.2.2.2.2.2.2.2.2.1
theorem dX8_item_144 : decode cX8_item 144 = .ok (.aload_n 0, 1) := dX8_item_r120.2.2.2.2.2.2.2.2.2.2.2.2.2.1
theorem dX8_item_145 : decode cX8_item 145 = .ok (.getfield 162, 3) := dX8_item_r120.2.2.2.2.2.2.2.2.2.2.2.2.2.2.1
theorem dX8_item_148 : decode cX8_item 148 = .ok (.istore_n 3, 1) := dX8_item_r120.2.2.2.2.2.2.2.2.2.2.2.2.2.2.2.1
theorem dX8_item_r149 : zdcP cX8_item 149 [(.aload_n 0, 1), (.invokevirtual 190, 3), (.ifCond .ne 5, 3), (.iconst 0, 1), (.ireturn, 1), (.aload_n 0, 1), (.iload_n 1, 1), (.iload_n 2, 1), (.invokevirtual 193, 3), (.ifCond .ne 9, 3), (.aload_n 0, 1), (.iload_n 3, 1), (.invokevirtual 177, 3), (.ireturn, 1), (.aload_n 0, 1), (.getfield 81, 3)] := zdcA_ok (by decide +kernel)
theorem dX8_item_149 : decode cX8_item 149 = .ok (.aload_n 0, 1) := dX8_item_r149.1
theorem dX8_item_150 : decode cX8_item 150 = .ok (.invokevirtual 190, 3) := dX8_item_r149.2.1
theorem dX8_item_153 : decode cX8_item 153 = .ok (.ifCond .ne 5, 3) := dX8_item_r149.2.2.1
theorem dX8_item_156 : decode cX8_item 156 = .ok (.iconst 0, 1) := dX8_item_r149.2.2.2.1
theorem dX8_item_157 : decode cX8_item 157 = .ok (.ireturn, 1) := dX8_item_r149.2.2.2.2.1
theorem dX8_item_158 : decode cX8_item 158 = .ok (.aload_n 0, 1) := dX8_item_r149.2.2.2.2.2.1
theorem dX8_item_159 : decode cX8_item 159 = .ok (.iload_n 1, 1) := dX8_item_r149.2.2.2.2.2.2.1
theorem dX8_item_160 : decode cX8_item 160 = .ok (.iload_n 2, 1) := dX8_item_r149.2.2.2.2.2.2.2.1
theorem dX8_item_161 : decode cX8_item 161 = .ok (.invokevirtual 193, 3) := dX8_item_r149.2.2.2.2.2.2.2.2.1
theorem dX8_item_164 : decode cX8_item 164 = .ok (.ifCond .ne 9, 3) := dX8_item_r149.2.2.2.2.2.2.2.2.2.1
theorem dX8_item_167 : decode cX8_item 167 = .ok (.aload_n 0, 1) := dX8_item_r149.2.2.2.2.2.2.2.2.2.2.1
theorem dX8_item_168 : decode cX8_item 168 = .ok (.iload_n 3, 1) := dX8_item_r149.2.2.2.2.2.2.2.2.2.2.2.1
theorem dX8_item_169 : decode cX8_item 169 = .ok (.invokevirtual 177, 3) := dX8_item_r149.2.2.2.2.2.2.2.2.2.2.2.2.1
theorem dX8_item_172 : decode cX8_item 172 = .ok (.ireturn, 1) := dX8_item_r149.2.2.2.2.2.2.2.2.2.2.2.2.2.1
theorem dX8_item_173 : decode cX8_item 173 = .ok (.aload_n 0, 1) := dX8_item_r149.2.2.2.2.2.2.2.2.2.2.2.2.2.2.1
theorem dX8_item_174 : decode cX8_item 174 = .ok (.getfield 81, 3) := dX8_item_r149.2.2.2.2.2.2.2.2.2.2.2.2.2.2.2.1
theorem dX8_item_r177 : zdcP cX8_item 177 [(.iload_n 2, 1), (.aload_n 0, 1), (.getfield 171, 3), (.iastore, 1), (.iinc 2 1, 3), (.goto (-106), 3), (.iload_n 1, 1)] := zdcA_ok (by decide +kernel)
theorem dX8_item_177 : decode cX8_item 177 = .ok (.iload_n 2, 1) := dX8_item_r177.1
theorem dX8_item_178 : decode cX8_item 178 = .ok (.aload_n 0, 1) := dX8_item_r177.2.1
theorem dX8_item_179 : decode cX8_item 179 = .ok (.getfield 171, 3) := dX8_item_r177.2.2.1
theorem dX8_item_182 : decode cX8_item 182 = .ok (.iastore, 1) := dX8_item_r177.2.2.2.1
theorem dX8_item_183 : decode cX8_item 183 = .ok (.iinc 2 1, 3) := dX8_item_r177.2.2.2.2.1
theorem dX8_item_186 : decode cX8_item 186 = .ok (.goto (-106), 3) := dX8_item_r177.2.2.2.2.2.1
theorem dX8_item_189 : decode cX8_item 189 = .ok (.iload_n 1, 1) := dX8_item_r177.2.2.2.2.2.2.1
theorem dX8_item_190 : decode cX8_item 190 = .ok (.tableswitch 174 0 11 #[62, 77, 93, 108, 128, 148, 174, 174, 174, 174, 174, 161], 62) := by decide +kernel
theorem dX8_item_r252 : zdcP cX8_item 252 [(.aload_n 0, 1), (.aload_n 0, 1), (.getfield 81, 3), (.iconst 0, 1), (.iaload, 1), (.iconst 0, 1), (.invokevirtual 133, 3), (.pop, 1), (.goto 115, 3), (.aload_n 0, 1), (.aload_n 0, 1), (.getfield 81, 3), (.iconst 0, 1), (.iaload, 1), (.ineg, 1), (.iconst 0, 1)] := zdcA_ok (by decide +kernel)
theorem dX8_item_252 : decode cX8_item 252 = .ok (.aload_n 0, 1) := dX8_item_r252.1
theorem dX8_item_253 : decode cX8_item 253 = .ok (.aload_n 0, 1) := dX8_item_r252.2.1
theorem dX8_item_254 : decode cX8_item 254 = .ok (.getfield 81, 3) := dX8_item_r252.2.2.1
theorem dX8_item_257 : decode cX8_item 257 = .ok (.iconst 0, 1) := dX8_item_r252.2.2.2.1
theorem dX8_item_258 : decode cX8_item 258 = .ok (.iaload, 1) := dX8_item_r252.2.2.2.2.1
theorem dX8_item_259 : decode cX8_item 259 = .ok (.iconst 0, 1) := dX8_item_r252.2.2.2.2.2.1
theorem dX8_item_260 : decode cX8_item 260 = .ok (.invokevirtual 133, 3) := dX8_item_r252.2.2.2.2.2.2.1
theorem dX8_item_263 : decode cX8_item 263 = .ok (.pop, 1) := dX8_item_r252.2.2.2.2.2.2.2.1
theorem dX8_item_264 : decode cX8_item 264 = .ok (.goto 115, 3) := dX8_item_r252.2.2.2.2.2.2.2.2.1
theorem dX8_item_267 : decode cX8_item 267 = .ok (.aload_n 0, 1) := dX8_item_r252.2.2.2.2.2.2.2.2.2.1
theorem dX8_item_268 : decode cX8_item 268 = .ok (.aload_n 0, 1) := dX8_item_r252.2.2.2.2.2.2.2.2.2.2.1
theorem dX8_item_269 : decode cX8_item 269 = .ok (.getfield 81, 3) := dX8_item_r252.2.2.2.2.2.2.2.2.2.2.2.1
theorem dX8_item_272 : decode cX8_item 272 = .ok (.iconst 0, 1) := dX8_item_r252.2.2.2.2.2.2.2.2.2.2.2.2.1
theorem dX8_item_273 : decode cX8_item 273 = .ok (.iaload, 1) := dX8_item_r252.2.2.2.2.2.2.2.2.2.2.2.2.2.1
theorem dX8_item_274 : decode cX8_item 274 = .ok (.ineg, 1) := dX8_item_r252.2.2.2.2.2.2.2.2.2.2.2.2.2.2.1
theorem dX8_item_275 : decode cX8_item 275 = .ok (.iconst 0, 1) := dX8_item_r252.2.2.2.2.2.2.2.2.2.2.2.2.2.2.2.1
theorem dX8_item_r276 : zdcP cX8_item 276 [(.invokevirtual 133, 3), (.pop, 1), (.goto 99, 3), (.aload_n 0, 1), (.getfield 44, 3), (.aload_n 0, 1), (.getfield 108, 3), (.iconst 1, 1), (.isub, 1), (.iconst 1, 1), (.iastore, 1), (.goto 84, 3), (.aload_n 0, 1), (.aload_n 0, 1), (.getfield 81, 3), (.iconst 0, 1)] := zdcA_ok (by decide +kernel)
theorem dX8_item_276 : decode cX8_item 276 = .ok (.invokevirtual 133, 3) := dX8_item_r276.1
theorem dX8_item_279 : decode cX8_item 279 = .ok (.pop, 1) := dX8_item_r276.2.1
theorem dX8_item_280 : decode cX8_item 280 = .ok (.goto 99, 3) := dX8_item_r276.2.2.1
theorem dX8_item_283 : decode cX8_item 283 = .ok (.aload_n 0, 1) := dX8_item_r276.2.2.2.1
theorem dX8_item_284 : decode cX8_item 284 = .ok (.getfield 44, 3) := dX8_item_r276.2.2.2.2.1
theorem dX8_item_287 : decode cX8_item 287 = .ok (.aload_n 0, 1) := dX8_item_r276.2.2.2.2.2.1
theorem dX8_item_288 : decode cX8_item 288 = .ok (.getfield 108, 3) := dX8_item_r276.2.2.2.2.2.2.1
theorem dX8_item_291 : decode cX8_item 291 = .ok (.iconst 1, 1) := dX8_item_r276.2.2.2.2.2.2.2.1
theorem dX8_item_292 : decode cX8_item 292 = .ok (.isub, 1) := dX8_item_r276.2.2.2.2.2.2.2.2.1
theorem dX8_item_293 : decode cX8_item 293 = .ok (.iconst 1, 1) := dX8_item_r276.2.2.2.2.2.2.2.2.2.1
theorem dX8_item_294 : decode cX8_item 294 = .ok (.iastore, 1) := dX8_item_r276.2.2.2.2.2.2.2.2.2.2.1
theorem dX8_item_295 : decode cX8_item 295 = .ok (.goto 84, 3) := dX8_item_r276.2.2.2.2.2.2.2.2.2.2.2.1
theorem dX8_item_298 : decode cX8_item 298 = .ok (.aload_n 0, 1) := dX8_item_r276.2.2.2.2.2.2.2.2.2.2.2.2.1
theorem dX8_item_299 : decode cX8_item 299 = .ok (.aload_n 0, 1) := dX8_item_r276.2.2.2.2.2.2.2.2.2.2.2.2.2.1
theorem dX8_item_300 : decode cX8_item 300 = .ok (.getfield 81, 3) := dX8_item_r276.2.2.2.2.2.2.2.2.2.2.2.2.2.2.1
theorem dX8_item_303 : decode cX8_item 303 = .ok (.iconst 0, 1) := dX8_item_r276.2.2.2.2.2.2.2.2.2.2.2.2.2.2.2.1
theorem dX8_item_r304 : zdcP cX8_item 304 [(.iaload, 1), (.aload_n 0, 1), (.getfield 81, 3), (.iconst 1, 1), (.iaload, 1), (.invokevirtual 136, 3), (.pop, 1), (.goto 64, 3), (.aload_n 0, 1), (.getfield 53, 3), (.aload_n 0, 1), (.getfield 81, 3), (.iconst 0, 1), (.iaload, 1), (.aload_n 0, 1), (.getfield 81, 3)] := zdcA_ok (by decide +kernel)
theorem dX8_item_304 : decode cX8_item 304 = .ok (.iaload, 1) := dX8_item_r304.1
theorem dX8_item_305 : decode cX8_item 305 = .ok (.aload_n 0, 1) := dX8_item_r304.2.1
theorem dX8_item_306 : decode cX8_item 306 = .ok (.getfield 81, 3) := dX8_item_r304.2.2.1
theorem dX8_item_309 : decode cX8_item 309 = .ok (.iconst 1, 1) := dX8_item_r304.2.2.2.1
theorem dX8_item_310 : decode cX8_item 310 = .ok (.iaload, 1) := dX8_item_r304.2.2.2.2.1
theorem dX8_item_311 : decode cX8_item 311 = .ok (.invokevirtual 136, 3) := dX8_item_r304.2.2.2.2.2.1
theorem dX8_item_314 : decode cX8_item 314 = .ok (.pop, 1) := dX8_item_r304.2.2.2.2.2.2.1
theorem dX8_item_315 : decode cX8_item 315 = .ok (.goto 64, 3) := dX8_item_r304.2.2.2.2.2.2.2.1
theorem dX8_item_318 : decode cX8_item 318 = .ok (.aload_n 0, 1) := dX8_item_r304.2.2.2.2.2.2.2.2.1
theorem dX8_item_319 : decode cX8_item 319 = .ok (.getfield 53, 3) := dX8_item_r304.2.2.2.2.2.2.2.2.2.1
theorem dX8_item_322 : decode cX8_item 322 = .ok (.aload_n 0, 1) := dX8_item_r304.2.2.2.2.2.2.2.2.2.2.1
theorem dX8_item_323 : decode cX8_item 323 = .ok (.getfield 81, 3) := dX8_item_r304.2.2.2.2.2.2.2.2.2.2.2.1
theorem dX8_item_326 : decode cX8_item 326 = .ok (.iconst 0, 1) := dX8_item_r304.2.2.2.2.2.2.2.2.2.2.2.2.1
theorem dX8_item_327 : decode cX8_item 327 = .ok (.iaload, 1) := dX8_item_r304.2.2.2.2.2.2.2.2.2.2.2.2.2.1
theorem dX8_item_328 : decode cX8_item 328 = .ok (.aload_n 0, 1) := dX8_item_r304.2.2.2.2.2.2.2.2.2.2.2.2.2.2.1
theorem dX8_item_329 : decode cX8_item 329 = .ok (.getfield 81, 3) := dX8_item_r304.2.2.2.2.2.2.2.2.2.2.2.2.2.2.2.1
theorem dX8_item_r332 : zdcP cX8_item 332 [(.iconst 1, 1), (.iaload, 1), (.iastore, 1), (.goto 44, 3), (.aload_n 0, 1), (.aload_n 0, 1), (.getfield 81, 3), (.iconst 0, 1), (.iaload, 1), (.putfield 9, 3), (.goto 31, 3), (.aload_n 0, 1), (.aload_n 0, 1), (.getfield 81, 3), (.iconst 0, 1), (.iaload, 1)] := zdcA_ok (by decide +kernel)
theorem dX8_item_332 : decode cX8_item 332 = .ok (.iconst 1, 1) := dX8_item_r332.1
theorem dX8_item_333 : decode cX8_item 333 = .ok (.iaload, 1) := dX8_item_r332.2.1
theorem dX8_item_334 : decode cX8_item 334 = .ok (.iastore, 1) := dX8_item_r332.2.2.1
theorem dX8_item_335 : decode cX8_item 335 = .ok (.goto 44, 3) := dX8_item_r332.2.2.2.1
theorem dX8_item_338 : decode cX8_item 338 = .ok (.aload_n 0, 1) := dX8_item_r332.2.2.2.2.1
theorem dX8_item_339 : decode cX8_item 339 = .ok (.aload_n 0, 1) := dX8_item_r332.2.2.2.2.2.1
theorem dX8_item_340 : decode cX8_item 340 = .ok (.getfield 81, 3) := dX8_item_r332.2.2.2.2.2.2.1
theorem dX8_item_343 : decode cX8_item 343 = .ok (.iconst 0, 1) := dX8_item_r332.2.2.2.2.2.2.2.1
theorem dX8_item_344 : decode cX8_item 344 = .ok (.iaload, 1) := dX8_item_r332.2.2.2.2.2.2.2.2.1
theorem dX8_item_345 : decode cX8_item 345 = .ok (.putfield 9, 3) := dX8_item_r332.2.2.2.2.2.2.2.2.2.1
theorem dX8_item_348 : decode cX8_item 348 = .ok (.goto 31, 3) := dX8_item_r332.2.2.2.2.2.2.2.2.2.2.1
theorem dX8_item_351 : decode cX8_item 351 = .ok (.aload_n 0, 1) := dX8_item_r332.2.2.2.2.2.2.2.2.2.2.2.1
theorem dX8_item_352 : decode cX8_item 352 = .ok (.aload_n 0, 1) := dX8_item_r332.2.2.2.2.2.2.2.2.2.2.2.2.1
theorem dX8_item_353 : decode cX8_item 353 = .ok (.getfield 81, 3) := dX8_item_r332.2.2.2.2.2.2.2.2.2.2.2.2.2.1
theorem dX8_item_356 : decode cX8_item 356 = .ok (.iconst 0, 1) := dX8_item_r332.2.2.2.2.2.2.2.2.2.2.2.2.2.2.1
theorem dX8_item_357 : decode cX8_item 357 = .ok (.iaload, 1) := dX8_item_r332.2.2.2.2.2.2.2.2.2.2.2.2.2.2.2.1
theorem dX8_item_r358 : zdcP cX8_item 358 [(.invokevirtual 196, 3), (.goto 18, 3), (.aload_n 0, 1), (.iload_n 1, 1), (.bipush 6, 2), (.isub, 1), (.aload_n 0, 1), (.getfield 81, 3), (.iconst 0, 1), (.iaload, 1), (.invokevirtual 156, 3), (.pop, 1), (.iconst 1, 1), (.ireturn, 1)] := zdcA_ok (by decide +kernel)
theorem dX8_item_358 : decode cX8_item 358 = .ok (.invokevirtual 196, 3) := dX8_item_r358.1
theorem dX8_item_361 : decode cX8_item 361 = .ok (.goto 18, 3) := dX8_item_r358.2.1
theorem dX8_item_364 : decode cX8_item 364 = .ok (.aload_n 0, 1) := dX8_item_r358.2.2.1
theorem dX8_item_365 : decode cX8_item 365 = .ok (.iload_n 1, 1) := dX8_item_r358.2.2.2.1
theorem dX8_item_366 : decode cX8_item 366 = .ok (.bipush 6, 2) := dX8_item_r358.2.2.2.2.1
theorem dX8_item_368 : decode cX8_item 368 = .ok (.isub, 1) := dX8_item_r358.2.2.2.2.2.1
theorem dX8_item_369 : decode cX8_item 369 = .ok (.aload_n 0, 1) := dX8_item_r358.2.2.2.2.2.2.1
theorem dX8_item_370 : decode cX8_item 370 = .ok (.getfield 81, 3) := dX8_item_r358.2.2.2.2.2.2.2.1
theorem dX8_item_373 : decode cX8_item 373 = .ok (.iconst 0, 1) := dX8_item_r358.2.2.2.2.2.2.2.2.1
theorem dX8_item_374 : decode cX8_item 374 = .ok (.iaload, 1) := dX8_item_r358.2.2.2.2.2.2.2.2.2.1
theorem dX8_item_375 : decode cX8_item 375 = .ok (.invokevirtual 156, 3) := dX8_item_r358.2.2.2.2.2.2.2.2.2.2.1
theorem dX8_item_378 : decode cX8_item 378 = .ok (.pop, 1) := dX8_item_r358.2.2.2.2.2.2.2.2.2.2.2.1
theorem dX8_item_379 : decode cX8_item 379 = .ok (.iconst 1, 1) := dX8_item_r358.2.2.2.2.2.2.2.2.2.2.2.2.1
theorem dX8_item_380 : decode cX8_item 380 = .ok (.ireturn, 1) := dX8_item_r358.2.2.2.2.2.2.2.2.2.2.2.2.2.1
def wq_159_144 (F80 : Int32 → Int32 → zf_Me → Prop) (v1 : Int32) (v2 : Int32) (m : zf_Me) (Q : Bool → zf_Me → Prop) : Prop := wp_157 m (fun b37 m38 => ((b37 = true → wp_158 v1 v2 m38 (fun b39 m40 => ((b39 = true → ((0 ≤ (Int32.toInt v2) ∧ (Int32.toInt v2) < (2 : Int)) ∧ ∀ m41, m41 = zf_u m40 78 (Int32.toInt v2).toNat (m40.1 63 32) → F80 v1 (v2 + 1) m41)) ∧ (b39 = false → wp_153 (m.1 63 30) m40 (fun b43 m44 => Q b43 m44))))) ∧ (b37 = false → Q false m38)))
theorem zq_159_144 {d : Nat} (hd : 4 ≤ d) {F80 : Int32 → Int32 → zf_Me → Prop} {Q : Bool → zf_Me → Prop} (hF80 : ∀ (v1 : Int32) (v2 : Int32) (m : zf_Me), F80 v1 v2 m → zf_W none 0 0 d zt_159 80 [some (.inr (.inr (1, 63))), some (.inl v1), some (.inl v2), none] [] m (zf_B Q)) {v1 : Int32} {v2 : Int32} {m : zf_Me} (h : wq_159_144 F80 v1 v2 m Q) : zf_W none 0 0 d zt_159 144 [some (.inr (.inr (1, 63))), some (.inl v1), some (.inl v2), none] [] m (zf_B Q) := by
  obtain ⟨e, rfl⟩ : ∃ z, d = z + 1 := ⟨d - 1, by omega⟩
  unfold wq_159_144 at h
  refine zf_ld (pc' := 145) (v := .inr (.inr (1, 63))) dX8_item_144 rfl (fun _ _ _ => rfl) rfl rfl rfl ?_
  refine zf_gfi (pc' := 148) dX8_item_145 rfl rfl (by decide) rfl rfl ?_
  refine zf_st (pc' := 149) (L2 := [some (.inr (.inr (1, 63))), some (.inl v1), some (.inl v2), some (.inl (m.1 63 30))]) dX8_item_148 rfl (fun _ _ _ => rfl) rfl rfl rfl rfl rfl rfl ?_
  refine zf_ld (pc' := 150) (v := .inr (.inr (1, 63))) dX8_item_149 rfl (fun _ _ _ => rfl) rfl rfl rfl ?_
  refine zf_iv (k := 157) (pc' := 153) (r := []) dX8_item_150 rfl rfl rfl rfl (by decide) rfl rfl rfl (zr_157 (by omega) h) (zf_kB (fun b37 m38 h => ?_))
  refine zf_ib_ne (tgt := 158) (pc' := 156) dX8_item_153 rfl rfl (fun g => ?_) (fun g => ?_)
  · replace h := h.1 g
    refine zf_ld (pc' := 159) (v := .inr (.inr (1, 63))) dX8_item_158 rfl (fun _ _ _ => rfl) rfl rfl rfl ?_
    refine zf_ld (pc' := 160) (v := .inl v1) dX8_item_159 rfl (fun _ _ _ => rfl) rfl rfl rfl ?_
    refine zf_ld (pc' := 161) (v := .inl v2) dX8_item_160 rfl (fun _ _ _ => rfl) rfl rfl rfl ?_
    refine zf_iv (k := 158) (pc' := 164) (r := []) dX8_item_161 rfl rfl rfl rfl (by decide) rfl rfl rfl (zr_158 (by omega) h) (zf_kB (fun b39 m40 h => ?_))
    refine zf_ib_ne (tgt := 173) (pc' := 167) dX8_item_164 rfl rfl (fun g => ?_) (fun g => ?_)
    · replace h := h.1 g
      refine zf_ld (pc' := 174) (v := .inr (.inr (1, 63))) dX8_item_173 rfl (fun _ _ _ => rfl) rfl rfl rfl ?_
      refine zf_gfr (pc' := 177) (b := 78) dX8_item_174 rfl rfl (by decide) rfl rfl ?_
      refine zf_ld (pc' := 178) (v := .inl v2) dX8_item_177 rfl (fun _ _ _ => rfl) rfl rfl rfl ?_
      refine zf_ld (pc' := 179) (v := .inr (.inr (1, 63))) dX8_item_178 rfl (fun _ _ _ => rfl) rfl rfl rfl ?_
      refine zf_gfi (pc' := 182) dX8_item_179 rfl rfl (by decide) rfl rfl ?_
      refine zf_ias (pc' := 183) dX8_item_182 rfl (⟨by decide, rfl⟩ : zf_arr 78 2).1 (⟨by decide, rfl⟩ : zf_arr 78 2).2 h.1 rfl (fun m41 e42 => ?_)
      replace h := h.2 m41 e42
      refine zf_ii (y := (v2 + 1)) (L2 := [some (.inr (.inr (1, 63))), some (.inl v1), some (.inl (v2 + 1)), some (.inl (m.1 63 30))]) (pc' := 186) dX8_item_183 rfl rfl rfl rfl rfl ?_
      refine zf_goto (tgt := 80) dX8_item_186 rfl ?_
      exact zf_lo (hF80 _ _ _ h) ⟨rfl, rfl, rfl, trivial⟩
    · replace h := h.2 g
      refine zf_ld (pc' := 168) (v := .inr (.inr (1, 63))) dX8_item_167 rfl (fun _ _ _ => rfl) rfl rfl rfl ?_
      refine zf_ld (pc' := 169) (v := .inl (m.1 63 30)) dX8_item_168 rfl (fun _ _ _ => rfl) rfl rfl rfl ?_
      refine zf_iv (k := 153) (pc' := 172) (r := []) dX8_item_169 rfl rfl rfl rfl (by decide) rfl rfl rfl (zr_153 (by omega) h) (zf_kB (fun b43 m44 h => ?_))
      exact zf_rb (b := b43) dX8_item_172 rfl h
  · replace h := h.2 g
    refine zf_ic (v := 0) (pc' := 157) dX8_item_156 rfl rfl ?_
    exact zf_rb (b := false) dX8_item_157 rfl h
def wq_159_80 (Q : Bool → zf_Me → Prop) : Nat → Int32 → Int32 → zf_Me → Prop
  | 0, _, _, _ => False
  | n + 1, v1, v2, m => ((0 ≤ (Int32.toInt v1) ∧ (Int32.toInt v1) < (12 : Int)) ∧ ((v2.toInt ≥ ((m.1 77 (Int32.toInt v1).toNat)).toInt → (((v1.toInt < 0 ∨ v1.toInt > 11) → wp_149 (v1 - 6) (m.1 78 0) m (fun x11 m12 => Q true m12)) ∧ (v1.toInt = 0 → wp_140 (m.1 78 0) 0 m (fun x13 m14 => Q true m14)) ∧ (v1.toInt = 1 → wp_140 (-(m.1 78 0)) 0 m (fun x15 m16 => Q true m16)) ∧ (v1.toInt = 2 → ((0 ≤ (Int32.toInt ((m.1 63 0) - 1)) ∧ (Int32.toInt ((m.1 63 0) - 1)) < (24 : Int)) ∧ ∀ m17, m17 = zf_u m 66 (Int32.toInt ((m.1 63 0) - 1)).toNat 1 → Q true m17)) ∧ (v1.toInt = 3 → wp_141 (m.1 78 0) (m.1 78 1) m (fun x19 m20 => Q true m20)) ∧ (v1.toInt = 4 → ((0 ≤ (Int32.toInt (m.1 78 0)) ∧ (Int32.toInt (m.1 78 0)) < (6 : Int)) ∧ ∀ m21, m21 = zf_u m 69 (Int32.toInt (m.1 78 0)).toNat (m.1 78 1) → Q true m21)) ∧ (v1.toInt = 5 → (∀ m23, m23 = zf_u m 63 2 (m.1 78 0) → Q true m23)) ∧ (v1.toInt = 6 → wp_149 (v1 - 6) (m.1 78 0) m (fun x25 m26 => Q true m26)) ∧ (v1.toInt = 7 → wp_149 (v1 - 6) (m.1 78 0) m (fun x27 m28 => Q true m28)) ∧ (v1.toInt = 8 → wp_149 (v1 - 6) (m.1 78 0) m (fun x29 m30 => Q true m30)) ∧ (v1.toInt = 9 → wp_149 (v1 - 6) (m.1 78 0) m (fun x31 m32 => Q true m32)) ∧ (v1.toInt = 10 → wp_149 (v1 - 6) (m.1 78 0) m (fun x33 m34 => Q true m34)) ∧ (v1.toInt = 11 → wp_169 (m.1 78 0) m (fun m36 => Q true m36)))) ∧ (v2.toInt < ((m.1 77 (Int32.toInt v1).toNat)).toInt → ((v2.toInt ≤ 0 → wq_159_144 (wq_159_80 Q n) v1 v2 m Q) ∧ (v2.toInt > 0 → ((((m.1 63 30)).toInt ≥ ((m.1 63 31)).toInt → wp_153 (m.1 63 30) m (fun b45 m46 => Q b45 m46)) ∧ (((m.1 63 30)).toInt < ((m.1 63 31)).toInt → ((0 ≤ (Int32.toInt ((m.1 63 29) + (m.1 63 30))) ∧ (Int32.toInt ((m.1 63 29) + (m.1 63 30))) < (1280 : Int)) ∧ ((((Int64.toInt32 (m.2 74 (Int32.toInt ((m.1 63 29) + (m.1 63 30))).toNat))).toInt = 32 → (∀ m47, m47 = zf_u m 63 30 ((m.1 63 30) + 1) → wq_159_144 (wq_159_80 Q n) v1 v2 m47 Q)) ∧ (¬ ((Int64.toInt32 (m.2 74 (Int32.toInt ((m.1 63 29) + (m.1 63 30))).toNat))).toInt = 32 → wp_153 (m.1 63 30) m (fun b49 m50 => Q b49 m50)))))))))))
theorem zq_159_80 {d : Nat} (hd : 4 ≤ d) {Q : Bool → zf_Me → Prop} : ∀ (n : Nat) (v1 : Int32) (v2 : Int32) (m : zf_Me), wq_159_80 Q n v1 v2 m → zf_W none 0 0 d zt_159 80 [some (.inr (.inr (1, 63))), some (.inl v1), some (.inl v2), none] [] m (zf_B Q) := by
  obtain ⟨e, rfl⟩ : ∃ z, d = z + 1 := ⟨d - 1, by omega⟩
  intro n
  induction n with
  | zero =>
    intro v1 v2 m h
    exact h.elim
  | succ n ih =>
    intro v1 v2 m h
    unfold wq_159_80 at h
    refine zf_ld (pc' := 81) (v := .inl v2) dX8_item_80 rfl (fun _ _ _ => rfl) rfl rfl rfl ?_
    refine zf_ld (pc' := 82) (v := .inr (.inr (1, 63))) dX8_item_81 rfl (fun _ _ _ => rfl) rfl rfl rfl ?_
    refine zf_gfr (pc' := 85) (b := 77) dX8_item_82 rfl rfl (by decide) rfl rfl ?_
    refine zf_ld (pc' := 86) (v := .inl v1) dX8_item_85 rfl (fun _ _ _ => rfl) rfl rfl rfl ?_
    refine zf_ial (pc' := 87) dX8_item_86 rfl (⟨by decide, rfl⟩ : zf_arr 77 12).1 (⟨by decide, rfl⟩ : zf_arr 77 12).2 h.1 rfl ?_
    replace h := h.2
    refine zf_icmp_ge (tgt := 189) (pc' := 90) dX8_item_87 rfl rfl (fun g => ?_) (fun g => ?_)
    · replace h := h.1 g
      refine zf_ld (pc' := 190) (v := .inl v1) dX8_item_189 rfl (fun _ _ _ => rfl) rfl rfl rfl ?_
      refine zf_tsc (tgd := 364) dX8_item_190 rfl [252, 267, 283, 298, 318, 338, 364, 364, 364, 364, 364, 351] (by decide) (by decide) (fun g => ?_) (zl_cons (fun g => ?_) (zl_cons (fun g => ?_) (zl_cons (fun g => ?_) (zl_cons (fun g => ?_) (zl_cons (fun g => ?_) (zl_cons (fun g => ?_) (zl_cons (fun g => ?_) (zl_cons (fun g => ?_) (zl_cons (fun g => ?_) (zl_cons (fun g => ?_) (zl_cons (fun g => ?_) (zl_cons (fun g => ?_) (zl_nil)))))))))))))
      · replace h := h.1 (by omega)
        refine zf_ld (pc' := 365) (v := .inr (.inr (1, 63))) dX8_item_364 rfl (fun _ _ _ => rfl) rfl rfl rfl ?_
        refine zf_ld (pc' := 366) (v := .inl v1) dX8_item_365 rfl (fun _ _ _ => rfl) rfl rfl rfl ?_
        refine zf_bi (v := 6) (pc' := 368) dX8_item_366 rfl rfl ?_
        refine zf_in (pc' := 369) (S' := [.inl (v1 - 6), .inr (.inr (1, 63))]) dX8_item_368 rfl (fun _ _ _ => rfl) ?_
        refine zf_ld (pc' := 370) (v := .inr (.inr (1, 63))) dX8_item_369 rfl (fun _ _ _ => rfl) rfl rfl rfl ?_
        refine zf_gfr (pc' := 373) (b := 78) dX8_item_370 rfl rfl (by decide) rfl rfl ?_
        refine zf_ic (v := 0) (pc' := 374) dX8_item_373 rfl rfl ?_
        refine zf_ial (j := 0) (pc' := 375) dX8_item_374 rfl (⟨by decide, rfl⟩ : zf_arr 78 2).1 (⟨by decide, rfl⟩ : zf_arr 78 2).2 (by decide) rfl ?_
        refine zf_iv (k := 149) (pc' := 378) (r := []) dX8_item_375 rfl rfl rfl rfl (by decide) rfl rfl rfl (zr_149 (by omega) h) (zf_kI (fun x11 m12 h => ?_))
        refine zf_in (pc' := 379) (S' := []) dX8_item_378 rfl (fun _ _ _ => rfl) ?_
        refine zf_ic (v := 1) (pc' := 380) dX8_item_379 rfl rfl ?_
        exact zf_rb (b := true) dX8_item_380 rfl h
      · replace h := h.2.1 (by omega)
        refine zf_ld (pc' := 253) (v := .inr (.inr (1, 63))) dX8_item_252 rfl (fun _ _ _ => rfl) rfl rfl rfl ?_
        refine zf_ld (pc' := 254) (v := .inr (.inr (1, 63))) dX8_item_253 rfl (fun _ _ _ => rfl) rfl rfl rfl ?_
        refine zf_gfr (pc' := 257) (b := 78) dX8_item_254 rfl rfl (by decide) rfl rfl ?_
        refine zf_ic (v := 0) (pc' := 258) dX8_item_257 rfl rfl ?_
        refine zf_ial (j := 0) (pc' := 259) dX8_item_258 rfl (⟨by decide, rfl⟩ : zf_arr 78 2).1 (⟨by decide, rfl⟩ : zf_arr 78 2).2 (by decide) rfl ?_
        refine zf_ic (v := 0) (pc' := 260) dX8_item_259 rfl rfl ?_
        refine zf_iv (k := 140) (pc' := 263) (r := []) dX8_item_260 rfl rfl rfl rfl (by decide) rfl rfl rfl (zr_140 (by omega) h) (zf_kI (fun x13 m14 h => ?_))
        refine zf_in (pc' := 264) (S' := []) dX8_item_263 rfl (fun _ _ _ => rfl) ?_
        refine zf_goto (tgt := 379) dX8_item_264 rfl ?_
        refine zf_ic (v := 1) (pc' := 380) dX8_item_379 rfl rfl ?_
        exact zf_rb (b := true) dX8_item_380 rfl h
      · replace h := h.2.2.1 (by omega)
        refine zf_ld (pc' := 268) (v := .inr (.inr (1, 63))) dX8_item_267 rfl (fun _ _ _ => rfl) rfl rfl rfl ?_
        refine zf_ld (pc' := 269) (v := .inr (.inr (1, 63))) dX8_item_268 rfl (fun _ _ _ => rfl) rfl rfl rfl ?_
        refine zf_gfr (pc' := 272) (b := 78) dX8_item_269 rfl rfl (by decide) rfl rfl ?_
        refine zf_ic (v := 0) (pc' := 273) dX8_item_272 rfl rfl ?_
        refine zf_ial (j := 0) (pc' := 274) dX8_item_273 rfl (⟨by decide, rfl⟩ : zf_arr 78 2).1 (⟨by decide, rfl⟩ : zf_arr 78 2).2 (by decide) rfl ?_
        refine zf_in (pc' := 275) (S' := [.inl (-(m.1 78 0)), .inr (.inr (1, 63))]) dX8_item_274 rfl (fun _ _ _ => rfl) ?_
        refine zf_ic (v := 0) (pc' := 276) dX8_item_275 rfl rfl ?_
        refine zf_iv (k := 140) (pc' := 279) (r := []) dX8_item_276 rfl rfl rfl rfl (by decide) rfl rfl rfl (zr_140 (by omega) h) (zf_kI (fun x15 m16 h => ?_))
        refine zf_in (pc' := 280) (S' := []) dX8_item_279 rfl (fun _ _ _ => rfl) ?_
        refine zf_goto (tgt := 379) dX8_item_280 rfl ?_
        refine zf_ic (v := 1) (pc' := 380) dX8_item_379 rfl rfl ?_
        exact zf_rb (b := true) dX8_item_380 rfl h
      · replace h := h.2.2.2.1 (by omega)
        refine zf_ld (pc' := 284) (v := .inr (.inr (1, 63))) dX8_item_283 rfl (fun _ _ _ => rfl) rfl rfl rfl ?_
        refine zf_gfr (pc' := 287) (b := 66) dX8_item_284 rfl rfl (by decide) rfl rfl ?_
        refine zf_ld (pc' := 288) (v := .inr (.inr (1, 63))) dX8_item_287 rfl (fun _ _ _ => rfl) rfl rfl rfl ?_
        refine zf_gfi (pc' := 291) dX8_item_288 rfl rfl (by decide) rfl rfl ?_
        refine zf_ic (v := 1) (pc' := 292) dX8_item_291 rfl rfl ?_
        refine zf_in (pc' := 293) (S' := [.inl ((m.1 63 0) - 1), .inr (.inr (1, 66))]) dX8_item_292 rfl (fun _ _ _ => rfl) ?_
        refine zf_ic (v := 1) (pc' := 294) dX8_item_293 rfl rfl ?_
        refine zf_ias (pc' := 295) dX8_item_294 rfl (⟨by decide, rfl⟩ : zf_arr 66 24).1 (⟨by decide, rfl⟩ : zf_arr 66 24).2 h.1 rfl (fun m17 e18 => ?_)
        replace h := h.2 m17 e18
        refine zf_goto (tgt := 379) dX8_item_295 rfl ?_
        refine zf_ic (v := 1) (pc' := 380) dX8_item_379 rfl rfl ?_
        exact zf_rb (b := true) dX8_item_380 rfl h
      · replace h := h.2.2.2.2.1 (by omega)
        refine zf_ld (pc' := 299) (v := .inr (.inr (1, 63))) dX8_item_298 rfl (fun _ _ _ => rfl) rfl rfl rfl ?_
        refine zf_ld (pc' := 300) (v := .inr (.inr (1, 63))) dX8_item_299 rfl (fun _ _ _ => rfl) rfl rfl rfl ?_
        refine zf_gfr (pc' := 303) (b := 78) dX8_item_300 rfl rfl (by decide) rfl rfl ?_
        refine zf_ic (v := 0) (pc' := 304) dX8_item_303 rfl rfl ?_
        refine zf_ial (j := 0) (pc' := 305) dX8_item_304 rfl (⟨by decide, rfl⟩ : zf_arr 78 2).1 (⟨by decide, rfl⟩ : zf_arr 78 2).2 (by decide) rfl ?_
        refine zf_ld (pc' := 306) (v := .inr (.inr (1, 63))) dX8_item_305 rfl (fun _ _ _ => rfl) rfl rfl rfl ?_
        refine zf_gfr (pc' := 309) (b := 78) dX8_item_306 rfl rfl (by decide) rfl rfl ?_
        refine zf_ic (v := 1) (pc' := 310) dX8_item_309 rfl rfl ?_
        refine zf_ial (j := 1) (pc' := 311) dX8_item_310 rfl (⟨by decide, rfl⟩ : zf_arr 78 2).1 (⟨by decide, rfl⟩ : zf_arr 78 2).2 (by decide) rfl ?_
        refine zf_iv (k := 141) (pc' := 314) (r := []) dX8_item_311 rfl rfl rfl rfl (by decide) rfl rfl rfl (zr_141 (by omega) h) (zf_kI (fun x19 m20 h => ?_))
        refine zf_in (pc' := 315) (S' := []) dX8_item_314 rfl (fun _ _ _ => rfl) ?_
        refine zf_goto (tgt := 379) dX8_item_315 rfl ?_
        refine zf_ic (v := 1) (pc' := 380) dX8_item_379 rfl rfl ?_
        exact zf_rb (b := true) dX8_item_380 rfl h
      · replace h := h.2.2.2.2.2.1 (by omega)
        refine zf_ld (pc' := 319) (v := .inr (.inr (1, 63))) dX8_item_318 rfl (fun _ _ _ => rfl) rfl rfl rfl ?_
        refine zf_gfr (pc' := 322) (b := 69) dX8_item_319 rfl rfl (by decide) rfl rfl ?_
        refine zf_ld (pc' := 323) (v := .inr (.inr (1, 63))) dX8_item_322 rfl (fun _ _ _ => rfl) rfl rfl rfl ?_
        refine zf_gfr (pc' := 326) (b := 78) dX8_item_323 rfl rfl (by decide) rfl rfl ?_
        refine zf_ic (v := 0) (pc' := 327) dX8_item_326 rfl rfl ?_
        refine zf_ial (j := 0) (pc' := 328) dX8_item_327 rfl (⟨by decide, rfl⟩ : zf_arr 78 2).1 (⟨by decide, rfl⟩ : zf_arr 78 2).2 (by decide) rfl ?_
        refine zf_ld (pc' := 329) (v := .inr (.inr (1, 63))) dX8_item_328 rfl (fun _ _ _ => rfl) rfl rfl rfl ?_
        refine zf_gfr (pc' := 332) (b := 78) dX8_item_329 rfl rfl (by decide) rfl rfl ?_
        refine zf_ic (v := 1) (pc' := 333) dX8_item_332 rfl rfl ?_
        refine zf_ial (j := 1) (pc' := 334) dX8_item_333 rfl (⟨by decide, rfl⟩ : zf_arr 78 2).1 (⟨by decide, rfl⟩ : zf_arr 78 2).2 (by decide) rfl ?_
        refine zf_ias (pc' := 335) dX8_item_334 rfl (⟨by decide, rfl⟩ : zf_arr 69 6).1 (⟨by decide, rfl⟩ : zf_arr 69 6).2 h.1 rfl (fun m21 e22 => ?_)
        replace h := h.2 m21 e22
        refine zf_goto (tgt := 379) dX8_item_335 rfl ?_
        refine zf_ic (v := 1) (pc' := 380) dX8_item_379 rfl rfl ?_
        exact zf_rb (b := true) dX8_item_380 rfl h
      · replace h := h.2.2.2.2.2.2.1 (by omega)
        refine zf_ld (pc' := 339) (v := .inr (.inr (1, 63))) dX8_item_338 rfl (fun _ _ _ => rfl) rfl rfl rfl ?_
        refine zf_ld (pc' := 340) (v := .inr (.inr (1, 63))) dX8_item_339 rfl (fun _ _ _ => rfl) rfl rfl rfl ?_
        refine zf_gfr (pc' := 343) (b := 78) dX8_item_340 rfl rfl (by decide) rfl rfl ?_
        refine zf_ic (v := 0) (pc' := 344) dX8_item_343 rfl rfl ?_
        refine zf_ial (j := 0) (pc' := 345) dX8_item_344 rfl (⟨by decide, rfl⟩ : zf_arr 78 2).1 (⟨by decide, rfl⟩ : zf_arr 78 2).2 (by decide) rfl ?_
        refine zf_pf (pc' := 348) dX8_item_345 rfl rfl (by decide) rfl rfl rfl (fun m23 e24 => ?_)
        replace h := h m23 e24
        refine zf_goto (tgt := 379) dX8_item_348 rfl ?_
        refine zf_ic (v := 1) (pc' := 380) dX8_item_379 rfl rfl ?_
        exact zf_rb (b := true) dX8_item_380 rfl h
      · replace h := h.2.2.2.2.2.2.2.1 (by omega)
        refine zf_ld (pc' := 365) (v := .inr (.inr (1, 63))) dX8_item_364 rfl (fun _ _ _ => rfl) rfl rfl rfl ?_
        refine zf_ld (pc' := 366) (v := .inl v1) dX8_item_365 rfl (fun _ _ _ => rfl) rfl rfl rfl ?_
        refine zf_bi (v := 6) (pc' := 368) dX8_item_366 rfl rfl ?_
        refine zf_in (pc' := 369) (S' := [.inl (v1 - 6), .inr (.inr (1, 63))]) dX8_item_368 rfl (fun _ _ _ => rfl) ?_
        refine zf_ld (pc' := 370) (v := .inr (.inr (1, 63))) dX8_item_369 rfl (fun _ _ _ => rfl) rfl rfl rfl ?_
        refine zf_gfr (pc' := 373) (b := 78) dX8_item_370 rfl rfl (by decide) rfl rfl ?_
        refine zf_ic (v := 0) (pc' := 374) dX8_item_373 rfl rfl ?_
        refine zf_ial (j := 0) (pc' := 375) dX8_item_374 rfl (⟨by decide, rfl⟩ : zf_arr 78 2).1 (⟨by decide, rfl⟩ : zf_arr 78 2).2 (by decide) rfl ?_
        refine zf_iv (k := 149) (pc' := 378) (r := []) dX8_item_375 rfl rfl rfl rfl (by decide) rfl rfl rfl (zr_149 (by omega) h) (zf_kI (fun x25 m26 h => ?_))
        refine zf_in (pc' := 379) (S' := []) dX8_item_378 rfl (fun _ _ _ => rfl) ?_
        refine zf_ic (v := 1) (pc' := 380) dX8_item_379 rfl rfl ?_
        exact zf_rb (b := true) dX8_item_380 rfl h
      · replace h := h.2.2.2.2.2.2.2.2.1 (by omega)
        refine zf_ld (pc' := 365) (v := .inr (.inr (1, 63))) dX8_item_364 rfl (fun _ _ _ => rfl) rfl rfl rfl ?_
        refine zf_ld (pc' := 366) (v := .inl v1) dX8_item_365 rfl (fun _ _ _ => rfl) rfl rfl rfl ?_
        refine zf_bi (v := 6) (pc' := 368) dX8_item_366 rfl rfl ?_
        refine zf_in (pc' := 369) (S' := [.inl (v1 - 6), .inr (.inr (1, 63))]) dX8_item_368 rfl (fun _ _ _ => rfl) ?_
        refine zf_ld (pc' := 370) (v := .inr (.inr (1, 63))) dX8_item_369 rfl (fun _ _ _ => rfl) rfl rfl rfl ?_
        refine zf_gfr (pc' := 373) (b := 78) dX8_item_370 rfl rfl (by decide) rfl rfl ?_
        refine zf_ic (v := 0) (pc' := 374) dX8_item_373 rfl rfl ?_
        refine zf_ial (j := 0) (pc' := 375) dX8_item_374 rfl (⟨by decide, rfl⟩ : zf_arr 78 2).1 (⟨by decide, rfl⟩ : zf_arr 78 2).2 (by decide) rfl ?_
        refine zf_iv (k := 149) (pc' := 378) (r := []) dX8_item_375 rfl rfl rfl rfl (by decide) rfl rfl rfl (zr_149 (by omega) h) (zf_kI (fun x27 m28 h => ?_))
        refine zf_in (pc' := 379) (S' := []) dX8_item_378 rfl (fun _ _ _ => rfl) ?_
        refine zf_ic (v := 1) (pc' := 380) dX8_item_379 rfl rfl ?_
        exact zf_rb (b := true) dX8_item_380 rfl h
      · replace h := h.2.2.2.2.2.2.2.2.2.1 (by omega)
        refine zf_ld (pc' := 365) (v := .inr (.inr (1, 63))) dX8_item_364 rfl (fun _ _ _ => rfl) rfl rfl rfl ?_
        refine zf_ld (pc' := 366) (v := .inl v1) dX8_item_365 rfl (fun _ _ _ => rfl) rfl rfl rfl ?_
        refine zf_bi (v := 6) (pc' := 368) dX8_item_366 rfl rfl ?_
        refine zf_in (pc' := 369) (S' := [.inl (v1 - 6), .inr (.inr (1, 63))]) dX8_item_368 rfl (fun _ _ _ => rfl) ?_
        refine zf_ld (pc' := 370) (v := .inr (.inr (1, 63))) dX8_item_369 rfl (fun _ _ _ => rfl) rfl rfl rfl ?_
        refine zf_gfr (pc' := 373) (b := 78) dX8_item_370 rfl rfl (by decide) rfl rfl ?_
        refine zf_ic (v := 0) (pc' := 374) dX8_item_373 rfl rfl ?_
        refine zf_ial (j := 0) (pc' := 375) dX8_item_374 rfl (⟨by decide, rfl⟩ : zf_arr 78 2).1 (⟨by decide, rfl⟩ : zf_arr 78 2).2 (by decide) rfl ?_
        refine zf_iv (k := 149) (pc' := 378) (r := []) dX8_item_375 rfl rfl rfl rfl (by decide) rfl rfl rfl (zr_149 (by omega) h) (zf_kI (fun x29 m30 h => ?_))
        refine zf_in (pc' := 379) (S' := []) dX8_item_378 rfl (fun _ _ _ => rfl) ?_
        refine zf_ic (v := 1) (pc' := 380) dX8_item_379 rfl rfl ?_
        exact zf_rb (b := true) dX8_item_380 rfl h
      · replace h := h.2.2.2.2.2.2.2.2.2.2.1 (by omega)
        refine zf_ld (pc' := 365) (v := .inr (.inr (1, 63))) dX8_item_364 rfl (fun _ _ _ => rfl) rfl rfl rfl ?_
        refine zf_ld (pc' := 366) (v := .inl v1) dX8_item_365 rfl (fun _ _ _ => rfl) rfl rfl rfl ?_
        refine zf_bi (v := 6) (pc' := 368) dX8_item_366 rfl rfl ?_
        refine zf_in (pc' := 369) (S' := [.inl (v1 - 6), .inr (.inr (1, 63))]) dX8_item_368 rfl (fun _ _ _ => rfl) ?_
        refine zf_ld (pc' := 370) (v := .inr (.inr (1, 63))) dX8_item_369 rfl (fun _ _ _ => rfl) rfl rfl rfl ?_
        refine zf_gfr (pc' := 373) (b := 78) dX8_item_370 rfl rfl (by decide) rfl rfl ?_
        refine zf_ic (v := 0) (pc' := 374) dX8_item_373 rfl rfl ?_
        refine zf_ial (j := 0) (pc' := 375) dX8_item_374 rfl (⟨by decide, rfl⟩ : zf_arr 78 2).1 (⟨by decide, rfl⟩ : zf_arr 78 2).2 (by decide) rfl ?_
        refine zf_iv (k := 149) (pc' := 378) (r := []) dX8_item_375 rfl rfl rfl rfl (by decide) rfl rfl rfl (zr_149 (by omega) h) (zf_kI (fun x31 m32 h => ?_))
        refine zf_in (pc' := 379) (S' := []) dX8_item_378 rfl (fun _ _ _ => rfl) ?_
        refine zf_ic (v := 1) (pc' := 380) dX8_item_379 rfl rfl ?_
        exact zf_rb (b := true) dX8_item_380 rfl h
      · replace h := h.2.2.2.2.2.2.2.2.2.2.2.1 (by omega)
        refine zf_ld (pc' := 365) (v := .inr (.inr (1, 63))) dX8_item_364 rfl (fun _ _ _ => rfl) rfl rfl rfl ?_
        refine zf_ld (pc' := 366) (v := .inl v1) dX8_item_365 rfl (fun _ _ _ => rfl) rfl rfl rfl ?_
        refine zf_bi (v := 6) (pc' := 368) dX8_item_366 rfl rfl ?_
        refine zf_in (pc' := 369) (S' := [.inl (v1 - 6), .inr (.inr (1, 63))]) dX8_item_368 rfl (fun _ _ _ => rfl) ?_
        refine zf_ld (pc' := 370) (v := .inr (.inr (1, 63))) dX8_item_369 rfl (fun _ _ _ => rfl) rfl rfl rfl ?_
        refine zf_gfr (pc' := 373) (b := 78) dX8_item_370 rfl rfl (by decide) rfl rfl ?_
        refine zf_ic (v := 0) (pc' := 374) dX8_item_373 rfl rfl ?_
        refine zf_ial (j := 0) (pc' := 375) dX8_item_374 rfl (⟨by decide, rfl⟩ : zf_arr 78 2).1 (⟨by decide, rfl⟩ : zf_arr 78 2).2 (by decide) rfl ?_
        refine zf_iv (k := 149) (pc' := 378) (r := []) dX8_item_375 rfl rfl rfl rfl (by decide) rfl rfl rfl (zr_149 (by omega) h) (zf_kI (fun x33 m34 h => ?_))
        refine zf_in (pc' := 379) (S' := []) dX8_item_378 rfl (fun _ _ _ => rfl) ?_
        refine zf_ic (v := 1) (pc' := 380) dX8_item_379 rfl rfl ?_
        exact zf_rb (b := true) dX8_item_380 rfl h
      · replace h := h.2.2.2.2.2.2.2.2.2.2.2.2 (by omega)
        refine zf_ld (pc' := 352) (v := .inr (.inr (1, 63))) dX8_item_351 rfl (fun _ _ _ => rfl) rfl rfl rfl ?_
        refine zf_ld (pc' := 353) (v := .inr (.inr (1, 63))) dX8_item_352 rfl (fun _ _ _ => rfl) rfl rfl rfl ?_
        refine zf_gfr (pc' := 356) (b := 78) dX8_item_353 rfl rfl (by decide) rfl rfl ?_
        refine zf_ic (v := 0) (pc' := 357) dX8_item_356 rfl rfl ?_
        refine zf_ial (j := 0) (pc' := 358) dX8_item_357 rfl (⟨by decide, rfl⟩ : zf_arr 78 2).1 (⟨by decide, rfl⟩ : zf_arr 78 2).2 (by decide) rfl ?_
        refine zf_iv (k := 169) (pc' := 361) (r := []) dX8_item_358 rfl rfl rfl rfl (by decide) rfl rfl rfl (zr_169 (by omega) h) (zf_kO (fun m36 h => ?_))
        refine zf_goto (tgt := 379) dX8_item_361 rfl ?_
        refine zf_ic (v := 1) (pc' := 380) dX8_item_379 rfl rfl ?_
        exact zf_rb (b := true) dX8_item_380 rfl h
    · replace h := h.2 g
      refine zf_ld (pc' := 91) (v := .inl v2) dX8_item_90 rfl (fun _ _ _ => rfl) rfl rfl rfl ?_
      refine zf_if_le (tgt := 144) (pc' := 94) dX8_item_91 rfl rfl (fun g => ?_) (fun g => ?_)
      · replace h := h.1 g
        exact zf_lo (zq_159_144 (by omega) ih h) ⟨rfl, rfl, rfl, trivial⟩
      · replace h := h.2 g
        refine zf_ld (pc' := 95) (v := .inr (.inr (1, 63))) dX8_item_94 rfl (fun _ _ _ => rfl) rfl rfl rfl ?_
        refine zf_gfi (pc' := 98) dX8_item_95 rfl rfl (by decide) rfl rfl ?_
        refine zf_ld (pc' := 99) (v := .inr (.inr (1, 63))) dX8_item_98 rfl (fun _ _ _ => rfl) rfl rfl rfl ?_
        refine zf_gfi (pc' := 102) dX8_item_99 rfl rfl (by decide) rfl rfl ?_
        refine zf_icmp_ge (tgt := 125) (pc' := 105) dX8_item_102 rfl rfl (fun g => ?_) (fun g => ?_)
        · replace h := h.1 g
          refine zf_ld (pc' := 126) (v := .inr (.inr (1, 63))) dX8_item_125 rfl (fun _ _ _ => rfl) rfl rfl rfl ?_
          refine zf_ld (pc' := 127) (v := .inr (.inr (1, 63))) dX8_item_126 rfl (fun _ _ _ => rfl) rfl rfl rfl ?_
          refine zf_gfi (pc' := 130) dX8_item_127 rfl rfl (by decide) rfl rfl ?_
          refine zf_iv (k := 153) (pc' := 133) (r := []) dX8_item_130 rfl rfl rfl rfl (by decide) rfl rfl rfl (zr_153 (by omega) h) (zf_kB (fun b45 m46 h => ?_))
          exact zf_rb (b := b45) dX8_item_133 rfl h
        · replace h := h.2 g
          refine zf_ld (pc' := 106) (v := .inr (.inr (1, 63))) dX8_item_105 rfl (fun _ _ _ => rfl) rfl rfl rfl ?_
          refine zf_gfr (pc' := 109) (b := 74) dX8_item_106 rfl rfl (by decide) rfl rfl ?_
          refine zf_ld (pc' := 110) (v := .inr (.inr (1, 63))) dX8_item_109 rfl (fun _ _ _ => rfl) rfl rfl rfl ?_
          refine zf_gfi (pc' := 113) dX8_item_110 rfl rfl (by decide) rfl rfl ?_
          refine zf_ld (pc' := 114) (v := .inr (.inr (1, 63))) dX8_item_113 rfl (fun _ _ _ => rfl) rfl rfl rfl ?_
          refine zf_gfi (pc' := 117) dX8_item_114 rfl rfl (by decide) rfl rfl ?_
          refine zf_in (pc' := 118) (S' := [.inl ((m.1 63 29) + (m.1 63 30)), .inr (.inr (1, 74))]) dX8_item_117 rfl (fun _ _ _ => rfl) ?_
          refine zf_lal (pc' := 119) dX8_item_118 rfl (⟨by decide, rfl⟩ : zf_larr 74 1280).1 (⟨by decide, rfl⟩ : zf_larr 74 1280).2 h.1 rfl ?_
          replace h := h.2
          refine zf_in (pc' := 120) (S' := [.inl (Int64.toInt32 (m.2 74 (Int32.toInt ((m.1 63 29) + (m.1 63 30))).toNat))]) dX8_item_119 rfl (fun _ _ _ => rfl) ?_
          refine zf_bi (v := 32) (pc' := 122) dX8_item_120 rfl rfl ?_
          refine zf_icmp_eq (tgt := 134) (pc' := 125) dX8_item_122 rfl rfl (fun g => ?_) (fun g => ?_)
          · replace h := h.1 g
            refine zf_ld (pc' := 135) (v := .inr (.inr (1, 63))) dX8_item_134 rfl (fun _ _ _ => rfl) rfl rfl rfl ?_
            refine zf_in (pc' := 136) (S' := [.inr (.inr (1, 63)), .inr (.inr (1, 63))]) dX8_item_135 rfl (fun _ _ _ => rfl) ?_
            refine zf_gfi (pc' := 139) dX8_item_136 rfl rfl (by decide) rfl rfl ?_
            refine zf_ic (v := 1) (pc' := 140) dX8_item_139 rfl rfl ?_
            refine zf_in (pc' := 141) (S' := [.inl ((m.1 63 30) + 1), .inr (.inr (1, 63))]) dX8_item_140 rfl (fun _ _ _ => rfl) ?_
            refine zf_pf (pc' := 144) dX8_item_141 rfl rfl (by decide) rfl rfl rfl (fun m47 e48 => ?_)
            replace h := h m47 e48
            exact zf_lo (zq_159_144 (by omega) ih h) ⟨rfl, rfl, rfl, trivial⟩
          · replace h := h.2 g
            refine zf_ld (pc' := 126) (v := .inr (.inr (1, 63))) dX8_item_125 rfl (fun _ _ _ => rfl) rfl rfl rfl ?_
            refine zf_ld (pc' := 127) (v := .inr (.inr (1, 63))) dX8_item_126 rfl (fun _ _ _ => rfl) rfl rfl rfl ?_
            refine zf_gfi (pc' := 130) dX8_item_127 rfl rfl (by decide) rfl rfl ?_
            refine zf_iv (k := 153) (pc' := 133) (r := []) dX8_item_130 rfl rfl rfl rfl (by decide) rfl rfl rfl (zr_153 (by omega) h) (zf_kB (fun b49 m50 h => ?_))
            exact zf_rb (b := b49) dX8_item_133 rfl h
def wq_159_66 (m : zf_Me) (Q : Bool → zf_Me → Prop) : Prop := wp_155 m (fun x9 m10 => ((¬ x9.toInt = (-1) → (∃ n80, wq_159_80 Q n80 x9 0 m10)) ∧ (x9.toInt = (-1) → Q false m10)))
theorem zq_159_66 {d : Nat} (hd : 4 ≤ d) {Q : Bool → zf_Me → Prop} {m : zf_Me} (h : wq_159_66 m Q) : zf_W none 0 0 d zt_159 66 [some (.inr (.inr (1, 63))), none, none, none] [] m (zf_B Q) := by
  obtain ⟨e, rfl⟩ : ∃ z, d = z + 1 := ⟨d - 1, by omega⟩
  unfold wq_159_66 at h
  refine zf_ld (pc' := 67) (v := .inr (.inr (1, 63))) dX8_item_66 rfl (fun _ _ _ => rfl) rfl rfl rfl ?_
  refine zf_iv (k := 155) (pc' := 70) (r := []) dX8_item_67 rfl rfl rfl rfl (by decide) rfl rfl rfl (zr_155 (by omega) h) (zf_kI (fun x9 m10 h => ?_))
  refine zf_st (pc' := 71) (L2 := [some (.inr (.inr (1, 63))), some (.inl x9), none, none]) dX8_item_70 rfl (fun _ _ _ => rfl) rfl rfl rfl rfl rfl rfl ?_
  refine zf_ld (pc' := 72) (v := .inl x9) dX8_item_71 rfl (fun _ _ _ => rfl) rfl rfl rfl ?_
  refine zf_ic (v := (-1)) (pc' := 73) dX8_item_72 rfl rfl ?_
  refine zf_icmp_ne (tgt := 78) (pc' := 76) dX8_item_73 rfl rfl (fun g => ?_) (fun g => ?_)
  · replace h := h.1 g
    refine zf_ic (v := 0) (pc' := 79) dX8_item_78 rfl rfl ?_
    refine zf_st (pc' := 80) (L2 := [some (.inr (.inr (1, 63))), some (.inl x9), some (.inl 0), none]) dX8_item_79 rfl (fun _ _ _ => rfl) rfl rfl rfl rfl rfl rfl ?_
    obtain ⟨n80, h⟩ := h
    exact zf_lo (zq_159_80 (by omega) n80 _ _ _ h) ⟨rfl, rfl, rfl, trivial⟩
  · replace h := h.2 g
    refine zf_ic (v := 0) (pc' := 77) dX8_item_76 rfl rfl ?_
    exact zf_rb (b := false) dX8_item_77 rfl h
def wq_159_40 (m : zf_Me) (Q : Bool → zf_Me → Prop) : Prop := wp_154 3 m (fun b7 m8 => ((b7 = false → wq_159_66 m8 Q) ∧ (b7 = true → ((¬ ((m8.1 63 1)).toInt = 6 → wq_159_66 m8 Q) ∧ (((m8.1 63 1)).toInt = 6 → wp_153 (m8.1 63 30) m8 (fun b51 m52 => Q b51 m52))))))
theorem zq_159_40 {d : Nat} (hd : 4 ≤ d) {Q : Bool → zf_Me → Prop} {m : zf_Me} (h : wq_159_40 m Q) : zf_W none 0 0 d zt_159 40 [some (.inr (.inr (1, 63))), none, none, none] [] m (zf_B Q) := by
  obtain ⟨e, rfl⟩ : ∃ z, d = z + 1 := ⟨d - 1, by omega⟩
  unfold wq_159_40 at h
  refine zf_ld (pc' := 41) (v := .inr (.inr (1, 63))) dX8_item_40 rfl (fun _ _ _ => rfl) rfl rfl rfl ?_
  refine zf_ic (v := 3) (pc' := 42) dX8_item_41 rfl rfl ?_
  refine zf_iv (k := 154) (pc' := 45) (r := []) dX8_item_42 rfl rfl rfl rfl (by decide) rfl rfl rfl (zr_154 (by omega) h) (zf_kB (fun b7 m8 h => ?_))
  refine zf_ib_eq (tgt := 66) (pc' := 48) dX8_item_45 rfl rfl (fun g => ?_) (fun g => ?_)
  · replace h := h.1 g
    exact zf_lo (zq_159_66 (by omega) h) ⟨rfl, trivial⟩
  · replace h := h.2 g
    refine zf_ld (pc' := 49) (v := .inr (.inr (1, 63))) dX8_item_48 rfl (fun _ _ _ => rfl) rfl rfl rfl ?_
    refine zf_gfi (pc' := 52) dX8_item_49 rfl rfl (by decide) rfl rfl ?_
    refine zf_bi (v := 6) (pc' := 54) dX8_item_52 rfl rfl ?_
    refine zf_icmp_ne (tgt := 66) (pc' := 57) dX8_item_54 rfl rfl (fun g => ?_) (fun g => ?_)
    · replace h := h.1 g
      exact zf_lo (zq_159_66 (by omega) h) ⟨rfl, trivial⟩
    · replace h := h.2 g
      refine zf_ld (pc' := 58) (v := .inr (.inr (1, 63))) dX8_item_57 rfl (fun _ _ _ => rfl) rfl rfl rfl ?_
      refine zf_ld (pc' := 59) (v := .inr (.inr (1, 63))) dX8_item_58 rfl (fun _ _ _ => rfl) rfl rfl rfl ?_
      refine zf_gfi (pc' := 62) dX8_item_59 rfl rfl (by decide) rfl rfl ?_
      refine zf_iv (k := 153) (pc' := 65) (r := []) dX8_item_62 rfl rfl rfl rfl (by decide) rfl rfl rfl (zr_153 (by omega) h) (zf_kB (fun b51 m52 h => ?_))
      exact zf_rb (b := b51) dX8_item_65 rfl h
def wq_159_25 (m : zf_Me) (Q : Bool → zf_Me → Prop) : Prop := wp_154 2 m (fun b5 m6 => ((b5 = false → wq_159_40 m6 Q) ∧ (b5 = true → ((((m6.1 63 0)).toInt = 0 → wp_153 (m6.1 63 30) m6 (fun b53 m54 => Q b53 m54)) ∧ (¬ ((m6.1 63 0)).toInt = 0 → wq_159_40 m6 Q)))))
theorem zq_159_25 {d : Nat} (hd : 4 ≤ d) {Q : Bool → zf_Me → Prop} {m : zf_Me} (h : wq_159_25 m Q) : zf_W none 0 0 d zt_159 25 [some (.inr (.inr (1, 63))), none, none, none] [] m (zf_B Q) := by
  obtain ⟨e, rfl⟩ : ∃ z, d = z + 1 := ⟨d - 1, by omega⟩
  unfold wq_159_25 at h
  refine zf_ld (pc' := 26) (v := .inr (.inr (1, 63))) dX8_item_25 rfl (fun _ _ _ => rfl) rfl rfl rfl ?_
  refine zf_ic (v := 2) (pc' := 27) dX8_item_26 rfl rfl ?_
  refine zf_iv (k := 154) (pc' := 30) (r := []) dX8_item_27 rfl rfl rfl rfl (by decide) rfl rfl rfl (zr_154 (by omega) h) (zf_kB (fun b5 m6 h => ?_))
  refine zf_ib_eq (tgt := 40) (pc' := 33) dX8_item_30 rfl rfl (fun g => ?_) (fun g => ?_)
  · replace h := h.1 g
    exact zf_lo (zq_159_40 (by omega) h) ⟨rfl, trivial⟩
  · replace h := h.2 g
    refine zf_ld (pc' := 34) (v := .inr (.inr (1, 63))) dX8_item_33 rfl (fun _ _ _ => rfl) rfl rfl rfl ?_
    refine zf_gfi (pc' := 37) dX8_item_34 rfl rfl (by decide) rfl rfl ?_
    refine zf_if_eq (tgt := 57) (pc' := 40) dX8_item_37 rfl rfl (fun g => ?_) (fun g => ?_)
    · replace h := h.1 g
      refine zf_ld (pc' := 58) (v := .inr (.inr (1, 63))) dX8_item_57 rfl (fun _ _ _ => rfl) rfl rfl rfl ?_
      refine zf_ld (pc' := 59) (v := .inr (.inr (1, 63))) dX8_item_58 rfl (fun _ _ _ => rfl) rfl rfl rfl ?_
      refine zf_gfi (pc' := 62) dX8_item_59 rfl rfl (by decide) rfl rfl ?_
      refine zf_iv (k := 153) (pc' := 65) (r := []) dX8_item_62 rfl rfl rfl rfl (by decide) rfl rfl rfl (zr_153 (by omega) h) (zf_kB (fun b53 m54 h => ?_))
      exact zf_rb (b := b53) dX8_item_65 rfl h
    · replace h := h.2 g
      exact zf_lo (zq_159_40 (by omega) h) ⟨rfl, trivial⟩
def wq_159_16 (m : zf_Me) (Q : Bool → zf_Me → Prop) : Prop := ((((m.1 63 0)).toInt = 24 → wp_153 (m.1 63 30) m (fun b3 m4 => Q b3 m4)) ∧ (¬ ((m.1 63 0)).toInt = 24 → wq_159_25 m Q))
theorem zq_159_16 {d : Nat} (hd : 4 ≤ d) {Q : Bool → zf_Me → Prop} {m : zf_Me} (h : wq_159_16 m Q) : zf_W none 0 0 d zt_159 16 [some (.inr (.inr (1, 63))), none, none, none] [] m (zf_B Q) := by
  obtain ⟨e, rfl⟩ : ∃ z, d = z + 1 := ⟨d - 1, by omega⟩
  unfold wq_159_16 at h
  refine zf_ld (pc' := 17) (v := .inr (.inr (1, 63))) dX8_item_16 rfl (fun _ _ _ => rfl) rfl rfl rfl ?_
  refine zf_gfi (pc' := 20) dX8_item_17 rfl rfl (by decide) rfl rfl ?_
  refine zf_bi (v := 24) (pc' := 22) dX8_item_20 rfl rfl ?_
  refine zf_icmp_eq (tgt := 57) (pc' := 25) dX8_item_22 rfl rfl (fun g => ?_) (fun g => ?_)
  · replace h := h.1 g
    refine zf_ld (pc' := 58) (v := .inr (.inr (1, 63))) dX8_item_57 rfl (fun _ _ _ => rfl) rfl rfl rfl ?_
    refine zf_ld (pc' := 59) (v := .inr (.inr (1, 63))) dX8_item_58 rfl (fun _ _ _ => rfl) rfl rfl rfl ?_
    refine zf_gfi (pc' := 62) dX8_item_59 rfl rfl (by decide) rfl rfl ?_
    refine zf_iv (k := 153) (pc' := 65) (r := []) dX8_item_62 rfl rfl rfl rfl (by decide) rfl rfl rfl (zr_153 (by omega) h) (zf_kB (fun b3 m4 h => ?_))
    exact zf_rb (b := b3) dX8_item_65 rfl h
  · replace h := h.2 g
    exact zf_lo (zq_159_25 (by omega) h) ⟨rfl, trivial⟩
def wp_159 (m : zf_Me) (Q : Bool → zf_Me → Prop) : Prop := wp_154 0 m (fun b1 m2 => ((b1 = true → wq_159_16 m2 Q) ∧ (b1 = false → wp_154 1 m2 (fun b55 m56 => ((b55 = false → wq_159_25 m56 Q) ∧ (b55 = true → wq_159_16 m56 Q))))))
theorem zr_159 {d : Nat} (hd : 4 ≤ d) {Q : Bool → zf_Me → Prop} {m : zf_Me} (h : wp_159 m Q) : zf_M d 159 [.inr (.inr (1, 63))] m (zf_B Q) := by
  obtain ⟨e, rfl⟩ : ∃ z, d = z + 1 := ⟨d - 1, by omega⟩
  unfold wp_159 at h
  refine zf_M_of (Nat.le_of_ble_eq_true rfl) zm_159 (L := [some (.inr (.inr (1, 63))), none, none, none]) rfl ?_
  refine zf_ld (pc' := 1) (v := .inr (.inr (1, 63))) dX8_item_0 rfl (fun _ _ _ => rfl) rfl rfl rfl ?_
  refine zf_ic (v := 0) (pc' := 2) dX8_item_1 rfl rfl ?_
  refine zf_iv (k := 154) (pc' := 5) (r := []) dX8_item_2 rfl rfl rfl rfl (by decide) rfl rfl rfl (zr_154 (by omega) h) (zf_kB (fun b1 m2 h => ?_))
  refine zf_ib_ne (tgt := 16) (pc' := 8) dX8_item_5 rfl rfl (fun g => ?_) (fun g => ?_)
  · replace h := h.1 g
    exact zf_lo (zq_159_16 (by omega) h) ⟨rfl, trivial⟩
  · replace h := h.2 g
    refine zf_ld (pc' := 9) (v := .inr (.inr (1, 63))) dX8_item_8 rfl (fun _ _ _ => rfl) rfl rfl rfl ?_
    refine zf_ic (v := 1) (pc' := 10) dX8_item_9 rfl rfl ?_
    refine zf_iv (k := 154) (pc' := 13) (r := []) dX8_item_10 rfl rfl rfl rfl (by decide) rfl rfl rfl (zr_154 (by omega) h) (zf_kB (fun b55 m56 h => ?_))
    refine zf_ib_eq (tgt := 25) (pc' := 16) dX8_item_13 rfl rfl (fun g => ?_) (fun g => ?_)
    · replace h := h.1 g
      exact zf_lo (zq_159_25 (by omega) h) ⟨rfl, trivial⟩
    · replace h := h.2 g
      exact zf_lo (zq_159_16 (by omega) h) ⟨rfl, trivial⟩
def zt_160 : zx_MT := (8, yX8_carries, cX8_carries, 7, (some FieldType.int), 5, 0)
theorem zm_160 : zx_m 160 = zt_160 := rfl
theorem dX8_carries_r0 : zdcP cX8_carries 0 [(.iconst 0, 1), (.istore 6, 2), (.iload 6, 2), (.iload_n 2, 1), (.if_icmp .ge 39, 3), (.iload 5, 2), (.ifCond .eq 17, 3), (.aload_n 1, 1), (.iload 6, 2), (.aload_n 3, 1), (.iload 4, 2), (.iload 6, 2), (.iadd, 1), (.iaload, 1), (.iastore, 1), (.goto 14, 3)] := zdcA_ok (by decide +kernel)
theorem dX8_carries_0 : decode cX8_carries 0 = .ok (.iconst 0, 1) := dX8_carries_r0.1
theorem dX8_carries_1 : decode cX8_carries 1 = .ok (.istore 6, 2) := dX8_carries_r0.2.1
theorem dX8_carries_3 : decode cX8_carries 3 = .ok (.iload 6, 2) := dX8_carries_r0.2.2.1
theorem dX8_carries_5 : decode cX8_carries 5 = .ok (.iload_n 2, 1) := dX8_carries_r0.2.2.2.1
theorem dX8_carries_6 : decode cX8_carries 6 = .ok (.if_icmp .ge 39, 3) := dX8_carries_r0.2.2.2.2.1
theorem dX8_carries_9 : decode cX8_carries 9 = .ok (.iload 5, 2) := dX8_carries_r0.2.2.2.2.2.1
theorem dX8_carries_11 : decode cX8_carries 11 = .ok (.ifCond .eq 17, 3) := dX8_carries_r0.2.2.2.2.2.2.1
theorem dX8_carries_14 : decode cX8_carries 14 = .ok (.aload_n 1, 1) := dX8_carries_r0.2.2.2.2.2.2.2.1
theorem dX8_carries_15 : decode cX8_carries 15 = .ok (.iload 6, 2) := dX8_carries_r0.2.2.2.2.2.2.2.2.1
theorem dX8_carries_17 : decode cX8_carries 17 = .ok (.aload_n 3, 1) := dX8_carries_r0.2.2.2.2.2.2.2.2.2.1
theorem dX8_carries_18 : decode cX8_carries 18 = .ok (.iload 4, 2) := dX8_carries_r0.2.2.2.2.2.2.2.2.2.2.1
theorem dX8_carries_20 : decode cX8_carries 20 = .ok (.iload 6, 2) := dX8_carries_r0.2.2.2.2.2.2.2.2.2.2.2.1
theorem dX8_carries_22 : decode cX8_carries 22 = .ok (.iadd, 1) := dX8_carries_r0.2.2.2.2.2.2.2.2.2.2.2.2.1
theorem dX8_carries_23 : decode cX8_carries 23 = .ok (.iaload, 1) := dX8_carries_r0.2.2.2.2.2.2.2.2.2.2.2.2.2.1
theorem dX8_carries_24 : decode cX8_carries 24 = .ok (.iastore, 1) := dX8_carries_r0.2.2.2.2.2.2.2.2.2.2.2.2.2.2.1
theorem dX8_carries_25 : decode cX8_carries 25 = .ok (.goto 14, 3) := dX8_carries_r0.2.2.2.2.2.2.2.2.2.2.2.2.2.2.2.1
theorem dX8_carries_r28 : zdcP cX8_carries 28 [(.aload_n 3, 1), (.iload 4, 2), (.iload 6, 2), (.iadd, 1), (.aload_n 1, 1), (.iload 6, 2), (.iaload, 1), (.iastore, 1), (.iinc 6 1, 3), (.goto (-39), 3), (.iload 4, 2), (.iload_n 2, 1), (.iadd, 1), (.ireturn, 1)] := zdcA_ok (by decide +kernel)
theorem dX8_carries_28 : decode cX8_carries 28 = .ok (.aload_n 3, 1) := dX8_carries_r28.1
theorem dX8_carries_29 : decode cX8_carries 29 = .ok (.iload 4, 2) := dX8_carries_r28.2.1
theorem dX8_carries_31 : decode cX8_carries 31 = .ok (.iload 6, 2) := dX8_carries_r28.2.2.1
theorem dX8_carries_33 : decode cX8_carries 33 = .ok (.iadd, 1) := dX8_carries_r28.2.2.2.1
theorem dX8_carries_34 : decode cX8_carries 34 = .ok (.aload_n 1, 1) := dX8_carries_r28.2.2.2.2.1
theorem dX8_carries_35 : decode cX8_carries 35 = .ok (.iload 6, 2) := dX8_carries_r28.2.2.2.2.2.1
theorem dX8_carries_37 : decode cX8_carries 37 = .ok (.iaload, 1) := dX8_carries_r28.2.2.2.2.2.2.1
theorem dX8_carries_38 : decode cX8_carries 38 = .ok (.iastore, 1) := dX8_carries_r28.2.2.2.2.2.2.2.1
theorem dX8_carries_39 : decode cX8_carries 39 = .ok (.iinc 6 1, 3) := dX8_carries_r28.2.2.2.2.2.2.2.2.1
theorem dX8_carries_42 : decode cX8_carries 42 = .ok (.goto (-39), 3) := dX8_carries_r28.2.2.2.2.2.2.2.2.2.1
theorem dX8_carries_45 : decode cX8_carries 45 = .ok (.iload 4, 2) := dX8_carries_r28.2.2.2.2.2.2.2.2.2.2.1
theorem dX8_carries_47 : decode cX8_carries 47 = .ok (.iload_n 2, 1) := dX8_carries_r28.2.2.2.2.2.2.2.2.2.2.2.1
theorem dX8_carries_48 : decode cX8_carries 48 = .ok (.iadd, 1) := dX8_carries_r28.2.2.2.2.2.2.2.2.2.2.2.2.1
theorem dX8_carries_49 : decode cX8_carries 49 = .ok (.ireturn, 1) := dX8_carries_r28.2.2.2.2.2.2.2.2.2.2.2.2.2.1
def wq_160_3 (a1 : Nat) (n1 : Nat) (a3 : Nat) (n3 : Nat) (v2 : Int32) (v4 : Int32) (v5 : Int32) (Q : Int32 → zf_Me → Prop) : Nat → Int32 → zf_Me → Prop
  | 0, _, _ => False
  | n + 1, v6, m => ((v6.toInt ≥ v2.toInt → Q (v4 + v2) m) ∧ (v6.toInt < v2.toInt → ((v5.toInt = 0 → ((0 ≤ (Int32.toInt v6) ∧ (Int32.toInt v6) < (n1 : Int)) ∧ ((0 ≤ (Int32.toInt (v4 + v6)) ∧ (Int32.toInt (v4 + v6)) < (n3 : Int)) ∧ ∀ m1, m1 = zf_u m a3 (Int32.toInt (v4 + v6)).toNat (m.1 a1 (Int32.toInt v6).toNat) → wq_160_3 a1 n1 a3 n3 v2 v4 v5 Q n (v6 + 1) m1))) ∧ (¬ v5.toInt = 0 → ((0 ≤ (Int32.toInt (v4 + v6)) ∧ (Int32.toInt (v4 + v6)) < (n3 : Int)) ∧ ((0 ≤ (Int32.toInt v6) ∧ (Int32.toInt v6) < (n1 : Int)) ∧ ∀ m3, m3 = zf_u m a1 (Int32.toInt v6).toNat (m.1 a3 (Int32.toInt (v4 + v6)).toNat) → wq_160_3 a1 n1 a3 n3 v2 v4 v5 Q n (v6 + 1) m3))))))
theorem zq_160_3 {d : Nat} (hd : 0 ≤ d) {a1 : Nat} {n1 : Nat} {a3 : Nat} {n3 : Nat} (hp1 : zf_arr a1 n1) (hp3 : zf_arr a3 n3) {v2 : Int32} {v4 : Int32} {v5 : Int32} {Q : Int32 → zf_Me → Prop} : ∀ (n : Nat) (v6 : Int32) (m : zf_Me), wq_160_3 a1 n1 a3 n3 v2 v4 v5 Q n v6 m → zf_W none 0 0 d zt_160 3 [none, some (.inr (.inr (1, a1))), some (.inl v2), some (.inr (.inr (1, a3))), some (.inl v4), some (.inl v5), some (.inl v6)] [] m (zf_I Q) := by
  intro n
  induction n with
  | zero =>
    intro v6 m h
    exact h.elim
  | succ n ih =>
    intro v6 m h
    unfold wq_160_3 at h
    refine zf_ld (pc' := 5) (v := .inl v6) dX8_carries_3 rfl (fun _ _ _ => rfl) rfl rfl rfl ?_
    refine zf_ld (pc' := 6) (v := .inl v2) dX8_carries_5 rfl (fun _ _ _ => rfl) rfl rfl rfl ?_
    refine zf_icmp_ge (tgt := 45) (pc' := 9) dX8_carries_6 rfl rfl (fun g => ?_) (fun g => ?_)
    · replace h := h.1 g
      refine zf_ld (pc' := 47) (v := .inl v4) dX8_carries_45 rfl (fun _ _ _ => rfl) rfl rfl rfl ?_
      refine zf_ld (pc' := 48) (v := .inl v2) dX8_carries_47 rfl (fun _ _ _ => rfl) rfl rfl rfl ?_
      refine zf_in (pc' := 49) (S' := [.inl (v4 + v2)]) dX8_carries_48 rfl (fun _ _ _ => rfl) ?_
      exact zf_ri dX8_carries_49 rfl h
    · replace h := h.2 g
      refine zf_ld (pc' := 11) (v := .inl v5) dX8_carries_9 rfl (fun _ _ _ => rfl) rfl rfl rfl ?_
      refine zf_if_eq (tgt := 28) (pc' := 14) dX8_carries_11 rfl rfl (fun g => ?_) (fun g => ?_)
      · replace h := h.1 g
        refine zf_ld (pc' := 29) (v := .inr (.inr (1, a3))) dX8_carries_28 rfl (fun _ _ _ => rfl) rfl rfl rfl ?_
        refine zf_ld (pc' := 31) (v := .inl v4) dX8_carries_29 rfl (fun _ _ _ => rfl) rfl rfl rfl ?_
        refine zf_ld (pc' := 33) (v := .inl v6) dX8_carries_31 rfl (fun _ _ _ => rfl) rfl rfl rfl ?_
        refine zf_in (pc' := 34) (S' := [.inl (v4 + v6), .inr (.inr (1, a3))]) dX8_carries_33 rfl (fun _ _ _ => rfl) ?_
        refine zf_ld (pc' := 35) (v := .inr (.inr (1, a1))) dX8_carries_34 rfl (fun _ _ _ => rfl) rfl rfl rfl ?_
        refine zf_ld (pc' := 37) (v := .inl v6) dX8_carries_35 rfl (fun _ _ _ => rfl) rfl rfl rfl ?_
        refine zf_ial (pc' := 38) dX8_carries_37 rfl hp1.1 hp1.2 h.1 rfl ?_
        replace h := h.2
        refine zf_ias (pc' := 39) dX8_carries_38 rfl hp3.1 hp3.2 h.1 rfl (fun m1 e2 => ?_)
        replace h := h.2 m1 e2
        refine zf_ii (y := (v6 + 1)) (L2 := [none, some (.inr (.inr (1, a1))), some (.inl v2), some (.inr (.inr (1, a3))), some (.inl v4), some (.inl v5), some (.inl (v6 + 1))]) (pc' := 42) dX8_carries_39 rfl rfl rfl rfl rfl ?_
        refine zf_goto (tgt := 3) dX8_carries_42 rfl ?_
        exact zf_lo (ih _ _ h) ⟨rfl, rfl, rfl, rfl, rfl, rfl, trivial⟩
      · replace h := h.2 g
        refine zf_ld (pc' := 15) (v := .inr (.inr (1, a1))) dX8_carries_14 rfl (fun _ _ _ => rfl) rfl rfl rfl ?_
        refine zf_ld (pc' := 17) (v := .inl v6) dX8_carries_15 rfl (fun _ _ _ => rfl) rfl rfl rfl ?_
        refine zf_ld (pc' := 18) (v := .inr (.inr (1, a3))) dX8_carries_17 rfl (fun _ _ _ => rfl) rfl rfl rfl ?_
        refine zf_ld (pc' := 20) (v := .inl v4) dX8_carries_18 rfl (fun _ _ _ => rfl) rfl rfl rfl ?_
        refine zf_ld (pc' := 22) (v := .inl v6) dX8_carries_20 rfl (fun _ _ _ => rfl) rfl rfl rfl ?_
        refine zf_in (pc' := 23) (S' := [.inl (v4 + v6), .inr (.inr (1, a3)), .inl v6, .inr (.inr (1, a1))]) dX8_carries_22 rfl (fun _ _ _ => rfl) ?_
        refine zf_ial (pc' := 24) dX8_carries_23 rfl hp3.1 hp3.2 h.1 rfl ?_
        replace h := h.2
        refine zf_ias (pc' := 25) dX8_carries_24 rfl hp1.1 hp1.2 h.1 rfl (fun m3 e4 => ?_)
        replace h := h.2 m3 e4
        refine zf_goto (tgt := 39) dX8_carries_25 rfl ?_
        refine zf_ii (y := (v6 + 1)) (L2 := [none, some (.inr (.inr (1, a1))), some (.inl v2), some (.inr (.inr (1, a3))), some (.inl v4), some (.inl v5), some (.inl (v6 + 1))]) (pc' := 42) dX8_carries_39 rfl rfl rfl rfl rfl ?_
        refine zf_goto (tgt := 3) dX8_carries_42 rfl ?_
        exact zf_lo (ih _ _ h) ⟨rfl, rfl, rfl, rfl, rfl, rfl, trivial⟩
def wp_160 (a1 : Nat) (n1 : Nat) (a3 : Nat) (n3 : Nat) (v2 : Int32) (v4 : Int32) (v5 : Int32) (m : zf_Me) (Q : Int32 → zf_Me → Prop) : Prop := (∃ k3, wq_160_3 a1 n1 a3 n3 v2 v4 v5 Q k3 0 m)
theorem zr_160 {d : Nat} (hd : 0 ≤ d) {a1 : Nat} {n1 : Nat} {a3 : Nat} {n3 : Nat} (hp1 : zf_arr a1 n1) (hp3 : zf_arr a3 n3) {v2 : Int32} {v4 : Int32} {v5 : Int32} {Q : Int32 → zf_Me → Prop} {m : zf_Me} (h : wp_160 a1 n1 a3 n3 v2 v4 v5 m Q) : zf_M d 160 [.inr (.inr (1, 63)), .inr (.inr (1, a1)), .inl v2, .inr (.inr (1, a3)), .inl v4, .inl v5] m (zf_I Q) := by
  unfold wp_160 at h
  refine zf_M_of (Nat.le_of_ble_eq_true rfl) zm_160 (L := [some (.inr (.inr (1, 63))), some (.inr (.inr (1, a1))), some (.inl v2), some (.inr (.inr (1, a3))), some (.inl v4), some (.inl v5), none]) rfl ?_
  refine zf_ic (v := 0) (pc' := 1) dX8_carries_0 rfl rfl ?_
  refine zf_st (pc' := 3) (L2 := [some (.inr (.inr (1, 63))), some (.inr (.inr (1, a1))), some (.inl v2), some (.inr (.inr (1, a3))), some (.inl v4), some (.inl v5), some (.inl 0)]) dX8_carries_1 rfl (fun _ _ _ => rfl) rfl rfl rfl rfl rfl rfl ?_
  obtain ⟨k3, h⟩ := h
  exact zf_lo (zq_160_3 (by omega) hp1 hp3 k3 _ _ h) ⟨rfl, rfl, rfl, rfl, rfl, rfl, trivial⟩
def zt_161 : zx_MT := (8, yX8_all, cX8_all, 6, none, 3, 0)
theorem zm_161 : zx_m 161 = zt_161 := rfl
theorem dX8_all_r0 : zdcP cX8_all 0 [(.aload_n 0, 1), (.aload_n 0, 1), (.getfield 41, 3), (.bipush 24, 2), (.aload_n 1, 1), (.iload_n 2, 1), (.iload_n 3, 1), (.invokevirtual 200, 3), (.istore 4, 2), (.aload_n 0, 1), (.aload_n 0, 1), (.getfield 44, 3), (.bipush 24, 2), (.aload_n 1, 1), (.iload 4, 2), (.iload_n 3, 1)] := zdcA_ok (by decide +kernel)
theorem dX8_all_0 : decode cX8_all 0 = .ok (.aload_n 0, 1) := dX8_all_r0.1
theorem dX8_all_1 : decode cX8_all 1 = .ok (.aload_n 0, 1) := dX8_all_r0.2.1
theorem dX8_all_2 : decode cX8_all 2 = .ok (.getfield 41, 3) := dX8_all_r0.2.2.1
theorem dX8_all_5 : decode cX8_all 5 = .ok (.bipush 24, 2) := dX8_all_r0.2.2.2.1
theorem dX8_all_7 : decode cX8_all 7 = .ok (.aload_n 1, 1) := dX8_all_r0.2.2.2.2.1
theorem dX8_all_8 : decode cX8_all 8 = .ok (.iload_n 2, 1) := dX8_all_r0.2.2.2.2.2.1
theorem dX8_all_9 : decode cX8_all 9 = .ok (.iload_n 3, 1) := dX8_all_r0.2.2.2.2.2.2.1
theorem dX8_all_10 : decode cX8_all 10 = .ok (.invokevirtual 200, 3) := dX8_all_r0.2.2.2.2.2.2.2.1
theorem dX8_all_13 : decode cX8_all 13 = .ok (.istore 4, 2) := dX8_all_r0.2.2.2.2.2.2.2.2.1
theorem dX8_all_15 : decode cX8_all 15 = .ok (.aload_n 0, 1) := dX8_all_r0.2.2.2.2.2.2.2.2.2.1
theorem dX8_all_16 : decode cX8_all 16 = .ok (.aload_n 0, 1) := dX8_all_r0.2.2.2.2.2.2.2.2.2.2.1
theorem dX8_all_17 : decode cX8_all 17 = .ok (.getfield 44, 3) := dX8_all_r0.2.2.2.2.2.2.2.2.2.2.2.1
theorem dX8_all_20 : decode cX8_all 20 = .ok (.bipush 24, 2) := dX8_all_r0.2.2.2.2.2.2.2.2.2.2.2.2.1
theorem dX8_all_22 : decode cX8_all 22 = .ok (.aload_n 1, 1) := dX8_all_r0.2.2.2.2.2.2.2.2.2.2.2.2.2.1
theorem dX8_all_23 : decode cX8_all 23 = .ok (.iload 4, 2) := dX8_all_r0.2.2.2.2.2.2.2.2.2.2.2.2.2.2.1
theorem dX8_all_25 : decode cX8_all 25 = .ok (.iload_n 3, 1) := dX8_all_r0.2.2.2.2.2.2.2.2.2.2.2.2.2.2.2.1
theorem dX8_all_r26 : zdcP cX8_all 26 [(.invokevirtual 200, 3), (.istore 4, 2), (.aload_n 0, 1), (.aload_n 0, 1), (.getfield 47, 3), (.bipush 6, 2), (.aload_n 1, 1), (.iload 4, 2), (.iload_n 3, 1), (.invokevirtual 200, 3), (.istore 4, 2), (.aload_n 0, 1), (.aload_n 0, 1), (.getfield 50, 3), (.bipush 6, 2), (.aload_n 1, 1)] := zdcA_ok (by decide +kernel)
theorem dX8_all_26 : decode cX8_all 26 = .ok (.invokevirtual 200, 3) := dX8_all_r26.1
theorem dX8_all_29 : decode cX8_all 29 = .ok (.istore 4, 2) := dX8_all_r26.2.1
theorem dX8_all_31 : decode cX8_all 31 = .ok (.aload_n 0, 1) := dX8_all_r26.2.2.1
theorem dX8_all_32 : decode cX8_all 32 = .ok (.aload_n 0, 1) := dX8_all_r26.2.2.2.1
theorem dX8_all_33 : decode cX8_all 33 = .ok (.getfield 47, 3) := dX8_all_r26.2.2.2.2.1
theorem dX8_all_36 : decode cX8_all 36 = .ok (.bipush 6, 2) := dX8_all_r26.2.2.2.2.2.1
theorem dX8_all_38 : decode cX8_all 38 = .ok (.aload_n 1, 1) := dX8_all_r26.2.2.2.2.2.2.1
theorem dX8_all_39 : decode cX8_all 39 = .ok (.iload 4, 2) := dX8_all_r26.2.2.2.2.2.2.2.1
theorem dX8_all_41 : decode cX8_all 41 = .ok (.iload_n 3, 1) := dX8_all_r26.2.2.2.2.2.2.2.2.1
theorem dX8_all_42 : decode cX8_all 42 = .ok (.invokevirtual 200, 3) := dX8_all_r26.2.2.2.2.2.2.2.2.2.1
theorem dX8_all_45 : decode cX8_all 45 = .ok (.istore 4, 2) := dX8_all_r26.2.2.2.2.2.2.2.2.2.2.1
theorem dX8_all_47 : decode cX8_all 47 = .ok (.aload_n 0, 1) := dX8_all_r26.2.2.2.2.2.2.2.2.2.2.2.1
theorem dX8_all_48 : decode cX8_all 48 = .ok (.aload_n 0, 1) := dX8_all_r26.2.2.2.2.2.2.2.2.2.2.2.2.1
theorem dX8_all_49 : decode cX8_all 49 = .ok (.getfield 50, 3) := dX8_all_r26.2.2.2.2.2.2.2.2.2.2.2.2.2.1
theorem dX8_all_52 : decode cX8_all 52 = .ok (.bipush 6, 2) := dX8_all_r26.2.2.2.2.2.2.2.2.2.2.2.2.2.2.1
theorem dX8_all_54 : decode cX8_all 54 = .ok (.aload_n 1, 1) := dX8_all_r26.2.2.2.2.2.2.2.2.2.2.2.2.2.2.2.1
theorem dX8_all_r55 : zdcP cX8_all 55 [(.iload 4, 2), (.iload_n 3, 1), (.invokevirtual 200, 3), (.istore 4, 2), (.aload_n 0, 1), (.aload_n 0, 1), (.getfield 53, 3), (.bipush 6, 2), (.aload_n 1, 1), (.iload 4, 2), (.iload_n 3, 1), (.invokevirtual 200, 3), (.istore 4, 2), (.iconst 0, 1), (.istore 5, 2), (.iload 5, 2)] := zdcA_ok (by decide +kernel)
theorem dX8_all_55 : decode cX8_all 55 = .ok (.iload 4, 2) := dX8_all_r55.1
theorem dX8_all_57 : decode cX8_all 57 = .ok (.iload_n 3, 1) := dX8_all_r55.2.1
theorem dX8_all_58 : decode cX8_all 58 = .ok (.invokevirtual 200, 3) := dX8_all_r55.2.2.1
theorem dX8_all_61 : decode cX8_all 61 = .ok (.istore 4, 2) := dX8_all_r55.2.2.2.1
theorem dX8_all_63 : decode cX8_all 63 = .ok (.aload_n 0, 1) := dX8_all_r55.2.2.2.2.1
theorem dX8_all_64 : decode cX8_all 64 = .ok (.aload_n 0, 1) := dX8_all_r55.2.2.2.2.2.1
theorem dX8_all_65 : decode cX8_all 65 = .ok (.getfield 53, 3) := dX8_all_r55.2.2.2.2.2.2.1
theorem dX8_all_68 : decode cX8_all 68 = .ok (.bipush 6, 2) := dX8_all_r55.2.2.2.2.2.2.2.1
theorem dX8_all_70 : decode cX8_all 70 = .ok (.aload_n 1, 1) := dX8_all_r55.2.2.2.2.2.2.2.2.1
theorem dX8_all_71 : decode cX8_all 71 = .ok (.iload 4, 2) := dX8_all_r55.2.2.2.2.2.2.2.2.2.1
theorem dX8_all_73 : decode cX8_all 73 = .ok (.iload_n 3, 1) := dX8_all_r55.2.2.2.2.2.2.2.2.2.2.1
theorem dX8_all_74 : decode cX8_all 74 = .ok (.invokevirtual 200, 3) := dX8_all_r55.2.2.2.2.2.2.2.2.2.2.2.1
theorem dX8_all_77 : decode cX8_all 77 = .ok (.istore 4, 2) := dX8_all_r55.2.2.2.2.2.2.2.2.2.2.2.2.1
theorem dX8_all_79 : decode cX8_all 79 = .ok (.iconst 0, 1) := dX8_all_r55.2.2.2.2.2.2.2.2.2.2.2.2.2.1
theorem dX8_all_80 : decode cX8_all 80 = .ok (.istore 5, 2) := dX8_all_r55.2.2.2.2.2.2.2.2.2.2.2.2.2.2.1
theorem dX8_all_82 : decode cX8_all 82 = .ok (.iload 5, 2) := dX8_all_r55.2.2.2.2.2.2.2.2.2.2.2.2.2.2.2.1
theorem dX8_all_r84 : zdcP cX8_all 84 [(.iconst 5, 1), (.if_icmp .ge 42, 3), (.iload_n 3, 1), (.ifCond .eq 19, 3), (.aload_n 0, 1), (.iload 5, 2), (.aload_n 1, 1), (.iload 4, 2), (.iload 5, 2), (.iadd, 1), (.iaload, 1), (.invokevirtual 148, 3), (.goto 16, 3), (.aload_n 1, 1), (.iload 4, 2), (.iload 5, 2)] := zdcA_ok (by decide +kernel)
theorem dX8_all_84 : decode cX8_all 84 = .ok (.iconst 5, 1) := dX8_all_r84.1
theorem dX8_all_85 : decode cX8_all 85 = .ok (.if_icmp .ge 42, 3) := dX8_all_r84.2.1
theorem dX8_all_88 : decode cX8_all 88 = .ok (.iload_n 3, 1) := dX8_all_r84.2.2.1
theorem dX8_all_89 : decode cX8_all 89 = .ok (.ifCond .eq 19, 3) := dX8_all_r84.2.2.2.1
theorem dX8_all_92 : decode cX8_all 92 = .ok (.aload_n 0, 1) := dX8_all_r84.2.2.2.2.1
theorem dX8_all_93 : decode cX8_all 93 = .ok (.iload 5, 2) := dX8_all_r84.2.2.2.2.2.1
theorem dX8_all_95 : decode cX8_all 95 = .ok (.aload_n 1, 1) := dX8_all_r84.2.2.2.2.2.2.1
theorem dX8_all_96 : decode cX8_all 96 = .ok (.iload 4, 2) := dX8_all_r84.2.2.2.2.2.2.2.1
theorem dX8_all_98 : decode cX8_all 98 = .ok (.iload 5, 2) := dX8_all_r84.2.2.2.2.2.2.2.2.1
theorem dX8_all_100 : decode cX8_all 100 = .ok (.iadd, 1) := dX8_all_r84.2.2.2.2.2.2.2.2.2.1
theorem dX8_all_101 : decode cX8_all 101 = .ok (.iaload, 1) := dX8_all_r84.2.2.2.2.2.2.2.2.2.2.1
theorem dX8_all_102 : decode cX8_all 102 = .ok (.invokevirtual 148, 3) := dX8_all_r84.2.2.2.2.2.2.2.2.2.2.2.1
theorem dX8_all_105 : decode cX8_all 105 = .ok (.goto 16, 3) := dX8_all_r84.2.2.2.2.2.2.2.2.2.2.2.2.1
theorem dX8_all_108 : decode cX8_all 108 = .ok (.aload_n 1, 1) := dX8_all_r84.2.2.2.2.2.2.2.2.2.2.2.2.2.1
theorem dX8_all_109 : decode cX8_all 109 = .ok (.iload 4, 2) := dX8_all_r84.2.2.2.2.2.2.2.2.2.2.2.2.2.2.1
theorem dX8_all_111 : decode cX8_all 111 = .ok (.iload 5, 2) := dX8_all_r84.2.2.2.2.2.2.2.2.2.2.2.2.2.2.2.1
theorem dX8_all_r113 : zdcP cX8_all 113 [(.iadd, 1), (.aload_n 0, 1), (.iload 5, 2), (.invokevirtual 145, 3), (.iastore, 1), (.iinc 5 1, 3), (.goto (-42), 3), (.iinc 4 5, 3), (.iload_n 3, 1), (.ifCond .eq 86, 3), (.aload_n 0, 1), (.aload_n 1, 1), (.iload 4, 2), (.iaload, 1), (.putfield 108, 3), (.aload_n 0, 1)] := zdcA_ok (by decide +kernel)
theorem dX8_all_113 : decode cX8_all 113 = .ok (.iadd, 1) := dX8_all_r113.1
theorem dX8_all_114 : decode cX8_all 114 = .ok (.aload_n 0, 1) := dX8_all_r113.2.1
theorem dX8_all_115 : decode cX8_all 115 = .ok (.iload 5, 2) := dX8_all_r113.2.2.1
theorem dX8_all_117 : decode cX8_all 117 = .ok (.invokevirtual 145, 3) := dX8_all_r113.2.2.2.1
theorem dX8_all_120 : decode cX8_all 120 = .ok (.iastore, 1) := dX8_all_r113.2.2.2.2.1
theorem dX8_all_121 : decode cX8_all 121 = .ok (.iinc 5 1, 3) := dX8_all_r113.2.2.2.2.2.1
theorem dX8_all_124 : decode cX8_all 124 = .ok (.goto (-42), 3) := dX8_all_r113.2.2.2.2.2.2.1
theorem dX8_all_127 : decode cX8_all 127 = .ok (.iinc 4 5, 3) := dX8_all_r113.2.2.2.2.2.2.2.1
theorem dX8_all_130 : decode cX8_all 130 = .ok (.iload_n 3, 1) := dX8_all_r113.2.2.2.2.2.2.2.2.1
theorem dX8_all_131 : decode cX8_all 131 = .ok (.ifCond .eq 86, 3) := dX8_all_r113.2.2.2.2.2.2.2.2.2.1
theorem dX8_all_134 : decode cX8_all 134 = .ok (.aload_n 0, 1) := dX8_all_r113.2.2.2.2.2.2.2.2.2.2.1
theorem dX8_all_135 : decode cX8_all 135 = .ok (.aload_n 1, 1) := dX8_all_r113.2.2.2.2.2.2.2.2.2.2.2.1
theorem dX8_all_136 : decode cX8_all 136 = .ok (.iload 4, 2) := dX8_all_r113.2.2.2.2.2.2.2.2.2.2.2.2.1
theorem dX8_all_138 : decode cX8_all 138 = .ok (.iaload, 1) := dX8_all_r113.2.2.2.2.2.2.2.2.2.2.2.2.2.1
theorem dX8_all_139 : decode cX8_all 139 = .ok (.putfield 108, 3) := dX8_all_r113.2.2.2.2.2.2.2.2.2.2.2.2.2.2.1
theorem dX8_all_142 : decode cX8_all 142 = .ok (.aload_n 0, 1) := dX8_all_r113.2.2.2.2.2.2.2.2.2.2.2.2.2.2.2.1
theorem dX8_all_r143 : zdcP cX8_all 143 [(.aload_n 1, 1), (.iload 4, 2), (.iconst 1, 1), (.iadd, 1), (.iaload, 1), (.putfield 105, 3), (.aload_n 0, 1), (.aload_n 1, 1), (.iload 4, 2), (.iconst 2, 1), (.iadd, 1), (.iaload, 1), (.putfield 9, 3), (.aload_n 0, 1), (.aload_n 1, 1), (.iload 4, 2)] := zdcA_ok (by decide +kernel)
theorem dX8_all_143 : decode cX8_all 143 = .ok (.aload_n 1, 1) := dX8_all_r143.1
theorem dX8_all_144 : decode cX8_all 144 = .ok (.iload 4, 2) := dX8_all_r143.2.1
theorem dX8_all_146 : decode cX8_all 146 = .ok (.iconst 1, 1) := dX8_all_r143.2.2.1
theorem dX8_all_147 : decode cX8_all 147 = .ok (.iadd, 1) := dX8_all_r143.2.2.2.1
theorem dX8_all_148 : decode cX8_all 148 = .ok (.iaload, 1) := dX8_all_r143.2.2.2.2.1
theorem dX8_all_149 : decode cX8_all 149 = .ok (.putfield 105, 3) := dX8_all_r143.2.2.2.2.2.1
theorem dX8_all_152 : decode cX8_all 152 = .ok (.aload_n 0, 1) := dX8_all_r143.2.2.2.2.2.2.1
theorem dX8_all_153 : decode cX8_all 153 = .ok (.aload_n 1, 1) := dX8_all_r143.2.2.2.2.2.2.2.1
theorem dX8_all_154 : decode cX8_all 154 = .ok (.iload 4, 2) := dX8_all_r143.2.2.2.2.2.2.2.2.1
theorem dX8_all_156 : decode cX8_all 156 = .ok (.iconst 2, 1) := dX8_all_r143.2.2.2.2.2.2.2.2.2.1
theorem dX8_all_157 : decode cX8_all 157 = .ok (.iadd, 1) := dX8_all_r143.2.2.2.2.2.2.2.2.2.2.1
theorem dX8_all_158 : decode cX8_all 158 = .ok (.iaload, 1) := dX8_all_r143.2.2.2.2.2.2.2.2.2.2.2.1
theorem dX8_all_159 : decode cX8_all 159 = .ok (.putfield 9, 3) := dX8_all_r143.2.2.2.2.2.2.2.2.2.2.2.2.1
theorem dX8_all_162 : decode cX8_all 162 = .ok (.aload_n 0, 1) := dX8_all_r143.2.2.2.2.2.2.2.2.2.2.2.2.2.1
theorem dX8_all_163 : decode cX8_all 163 = .ok (.aload_n 1, 1) := dX8_all_r143.2.2.2.2.2.2.2.2.2.2.2.2.2.2.1
theorem dX8_all_164 : decode cX8_all 164 = .ok (.iload 4, 2) := dX8_all_r143.2.2.2.2.2.2.2.2.2.2.2.2.2.2.2.1
theorem dX8_all_r166 : zdcP cX8_all 166 [(.iconst 3, 1), (.iadd, 1), (.iaload, 1), (.putfield 13, 3), (.aload_n 0, 1), (.aload_n 1, 1), (.iload 4, 2), (.iconst 4, 1), (.iadd, 1), (.iaload, 1), (.putfield 204, 3), (.aload_n 0, 1), (.aload_n 1, 1), (.iload 4, 2), (.iconst 5, 1), (.iadd, 1)] := zdcA_ok (by decide +kernel)
theorem dX8_all_166 : decode cX8_all 166 = .ok (.iconst 3, 1) := dX8_all_r166.1
theorem dX8_all_167 : decode cX8_all 167 = .ok (.iadd, 1) := dX8_all_r166.2.1
theorem dX8_all_168 : decode cX8_all 168 = .ok (.iaload, 1) := dX8_all_r166.2.2.1
theorem dX8_all_169 : decode cX8_all 169 = .ok (.putfield 13, 3) := dX8_all_r166.2.2.2.1
theorem dX8_all_172 : decode cX8_all 172 = .ok (.aload_n 0, 1) := dX8_all_r166.2.2.2.2.1
theorem dX8_all_173 : decode cX8_all 173 = .ok (.aload_n 1, 1) := dX8_all_r166.2.2.2.2.2.1
theorem dX8_all_174 : decode cX8_all 174 = .ok (.iload 4, 2) := dX8_all_r166.2.2.2.2.2.2.1
theorem dX8_all_176 : decode cX8_all 176 = .ok (.iconst 4, 1) := dX8_all_r166.2.2.2.2.2.2.2.1
theorem dX8_all_177 : decode cX8_all 177 = .ok (.iadd, 1) := dX8_all_r166.2.2.2.2.2.2.2.2.1
theorem dX8_all_178 : decode cX8_all 178 = .ok (.iaload, 1) := dX8_all_r166.2.2.2.2.2.2.2.2.2.1
theorem dX8_all_179 : decode cX8_all 179 = .ok (.putfield 204, 3) := dX8_all_r166.2.2.2.2.2.2.2.2.2.2.1
theorem dX8_all_182 : decode cX8_all 182 = .ok (.aload_n 0, 1) := dX8_all_r166.2.2.2.2.2.2.2.2.2.2.2.1
theorem dX8_all_183 : decode cX8_all 183 = .ok (.aload_n 1, 1) := dX8_all_r166.2.2.2.2.2.2.2.2.2.2.2.2.1
theorem dX8_all_184 : decode cX8_all 184 = .ok (.iload 4, 2) := dX8_all_r166.2.2.2.2.2.2.2.2.2.2.2.2.2.1
theorem dX8_all_186 : decode cX8_all 186 = .ok (.iconst 5, 1) := dX8_all_r166.2.2.2.2.2.2.2.2.2.2.2.2.2.2.1
theorem dX8_all_187 : decode cX8_all 187 = .ok (.iadd, 1) := dX8_all_r166.2.2.2.2.2.2.2.2.2.2.2.2.2.2.2.1
theorem dX8_all_r188 : zdcP cX8_all 188 [(.iaload, 1), (.putfield 207, 3), (.aload_n 0, 1), (.aload_n 1, 1), (.iload 4, 2), (.bipush 6, 2), (.iadd, 1), (.iaload, 1), (.putfield 210, 3), (.aload_n 0, 1), (.aload_n 1, 1), (.iload 4, 2), (.bipush 7, 2), (.iadd, 1), (.iaload, 1), (.putfield 31, 3)] := zdcA_ok (by decide +kernel)
theorem dX8_all_188 : decode cX8_all 188 = .ok (.iaload, 1) := dX8_all_r188.1
theorem dX8_all_189 : decode cX8_all 189 = .ok (.putfield 207, 3) := dX8_all_r188.2.1
theorem dX8_all_192 : decode cX8_all 192 = .ok (.aload_n 0, 1) := dX8_all_r188.2.2.1
theorem dX8_all_193 : decode cX8_all 193 = .ok (.aload_n 1, 1) := dX8_all_r188.2.2.2.1
theorem dX8_all_194 : decode cX8_all 194 = .ok (.iload 4, 2) := dX8_all_r188.2.2.2.2.1
theorem dX8_all_196 : decode cX8_all 196 = .ok (.bipush 6, 2) := dX8_all_r188.2.2.2.2.2.1
theorem dX8_all_198 : decode cX8_all 198 = .ok (.iadd, 1) := dX8_all_r188.2.2.2.2.2.2.1
theorem dX8_all_199 : decode cX8_all 199 = .ok (.iaload, 1) := dX8_all_r188.2.2.2.2.2.2.2.1
theorem dX8_all_200 : decode cX8_all 200 = .ok (.putfield 210, 3) := dX8_all_r188.2.2.2.2.2.2.2.2.1
theorem dX8_all_203 : decode cX8_all 203 = .ok (.aload_n 0, 1) := dX8_all_r188.2.2.2.2.2.2.2.2.2.1
theorem dX8_all_204 : decode cX8_all 204 = .ok (.aload_n 1, 1) := dX8_all_r188.2.2.2.2.2.2.2.2.2.2.1
theorem dX8_all_205 : decode cX8_all 205 = .ok (.iload 4, 2) := dX8_all_r188.2.2.2.2.2.2.2.2.2.2.2.1
theorem dX8_all_207 : decode cX8_all 207 = .ok (.bipush 7, 2) := dX8_all_r188.2.2.2.2.2.2.2.2.2.2.2.2.1
theorem dX8_all_209 : decode cX8_all 209 = .ok (.iadd, 1) := dX8_all_r188.2.2.2.2.2.2.2.2.2.2.2.2.2.1
theorem dX8_all_210 : decode cX8_all 210 = .ok (.iaload, 1) := dX8_all_r188.2.2.2.2.2.2.2.2.2.2.2.2.2.2.1
theorem dX8_all_211 : decode cX8_all 211 = .ok (.putfield 31, 3) := dX8_all_r188.2.2.2.2.2.2.2.2.2.2.2.2.2.2.2.1
theorem dX8_all_r214 : zdcP cX8_all 214 [(.goto 83, 3), (.aload_n 1, 1), (.iload 4, 2), (.aload_n 0, 1), (.getfield 108, 3), (.iastore, 1), (.aload_n 1, 1), (.iload 4, 2), (.iconst 1, 1), (.iadd, 1), (.aload_n 0, 1), (.getfield 105, 3), (.iastore, 1), (.aload_n 1, 1), (.iload 4, 2), (.iconst 2, 1)] := zdcA_ok (by decide +kernel)
theorem dX8_all_214 : decode cX8_all 214 = .ok (.goto 83, 3) := dX8_all_r214.1
theorem dX8_all_217 : decode cX8_all 217 = .ok (.aload_n 1, 1) := dX8_all_r214.2.1
theorem dX8_all_218 : decode cX8_all 218 = .ok (.iload 4, 2) := dX8_all_r214.2.2.1
theorem dX8_all_220 : decode cX8_all 220 = .ok (.aload_n 0, 1) := dX8_all_r214.2.2.2.1
theorem dX8_all_221 : decode cX8_all 221 = .ok (.getfield 108, 3) := dX8_all_r214.2.2.2.2.1
theorem dX8_all_224 : decode cX8_all 224 = .ok (.iastore, 1) := dX8_all_r214.2.2.2.2.2.1
theorem dX8_all_225 : decode cX8_all 225 = .ok (.aload_n 1, 1) := dX8_all_r214.2.2.2.2.2.2.1
theorem dX8_all_226 : decode cX8_all 226 = .ok (.iload 4, 2) := dX8_all_r214.2.2.2.2.2.2.2.1
theorem dX8_all_228 : decode cX8_all 228 = .ok (.iconst 1, 1) := dX8_all_r214.2.2.2.2.2.2.2.2.1
theorem dX8_all_229 : decode cX8_all 229 = .ok (.iadd, 1) := dX8_all_r214.2.2.2.2.2.2.2.2.2.1
theorem dX8_all_230 : decode cX8_all 230 = .ok (.aload_n 0, 1) := dX8_all_r214.2.2.2.2.2.2.2.2.2.2.1
theorem dX8_all_231 : decode cX8_all 231 = .ok (.getfield 105, 3) := dX8_all_r214.2.2.2.2.2.2.2.2.2.2.2.1
theorem dX8_all_234 : decode cX8_all 234 = .ok (.iastore, 1) := dX8_all_r214.2.2.2.2.2.2.2.2.2.2.2.2.1
theorem dX8_all_235 : decode cX8_all 235 = .ok (.aload_n 1, 1) := dX8_all_r214.2.2.2.2.2.2.2.2.2.2.2.2.2.1
theorem dX8_all_236 : decode cX8_all 236 = .ok (.iload 4, 2) := dX8_all_r214.2.2.2.2.2.2.2.2.2.2.2.2.2.2.1
theorem dX8_all_238 : decode cX8_all 238 = .ok (.iconst 2, 1) := dX8_all_r214.2.2.2.2.2.2.2.2.2.2.2.2.2.2.2.1
theorem dX8_all_r239 : zdcP cX8_all 239 [(.iadd, 1), (.aload_n 0, 1), (.getfield 9, 3), (.iastore, 1), (.aload_n 1, 1), (.iload 4, 2), (.iconst 3, 1), (.iadd, 1), (.aload_n 0, 1), (.getfield 13, 3), (.iastore, 1), (.aload_n 1, 1), (.iload 4, 2), (.iconst 4, 1), (.iadd, 1), (.aload_n 0, 1)] := zdcA_ok (by decide +kernel)
theorem dX8_all_239 : decode cX8_all 239 = .ok (.iadd, 1) := dX8_all_r239.1
theorem dX8_all_240 : decode cX8_all 240 = .ok (.aload_n 0, 1) := dX8_all_r239.2.1
theorem dX8_all_241 : decode cX8_all 241 = .ok (.getfield 9, 3) := dX8_all_r239.2.2.1
theorem dX8_all_244 : decode cX8_all 244 = .ok (.iastore, 1) := dX8_all_r239.2.2.2.1
theorem dX8_all_245 : decode cX8_all 245 = .ok (.aload_n 1, 1) := dX8_all_r239.2.2.2.2.1
theorem dX8_all_246 : decode cX8_all 246 = .ok (.iload 4, 2) := dX8_all_r239.2.2.2.2.2.1
theorem dX8_all_248 : decode cX8_all 248 = .ok (.iconst 3, 1) := dX8_all_r239.2.2.2.2.2.2.1
theorem dX8_all_249 : decode cX8_all 249 = .ok (.iadd, 1) := dX8_all_r239.2.2.2.2.2.2.2.1
theorem dX8_all_250 : decode cX8_all 250 = .ok (.aload_n 0, 1) := dX8_all_r239.2.2.2.2.2.2.2.2.1
theorem dX8_all_251 : decode cX8_all 251 = .ok (.getfield 13, 3) := dX8_all_r239.2.2.2.2.2.2.2.2.2.1
theorem dX8_all_254 : decode cX8_all 254 = .ok (.iastore, 1) := dX8_all_r239.2.2.2.2.2.2.2.2.2.2.1
theorem dX8_all_255 : decode cX8_all 255 = .ok (.aload_n 1, 1) := dX8_all_r239.2.2.2.2.2.2.2.2.2.2.2.1
theorem dX8_all_256 : decode cX8_all 256 = .ok (.iload 4, 2) := dX8_all_r239.2.2.2.2.2.2.2.2.2.2.2.2.1
theorem dX8_all_258 : decode cX8_all 258 = .ok (.iconst 4, 1) := dX8_all_r239.2.2.2.2.2.2.2.2.2.2.2.2.2.1
theorem dX8_all_259 : decode cX8_all 259 = .ok (.iadd, 1) := dX8_all_r239.2.2.2.2.2.2.2.2.2.2.2.2.2.2.1
theorem dX8_all_260 : decode cX8_all 260 = .ok (.aload_n 0, 1) := dX8_all_r239.2.2.2.2.2.2.2.2.2.2.2.2.2.2.2.1
theorem dX8_all_r261 : zdcP cX8_all 261 [(.getfield 204, 3), (.iastore, 1), (.aload_n 1, 1), (.iload 4, 2), (.iconst 5, 1), (.iadd, 1), (.aload_n 0, 1), (.getfield 207, 3), (.iastore, 1), (.aload_n 1, 1), (.iload 4, 2), (.bipush 6, 2), (.iadd, 1), (.aload_n 0, 1), (.getfield 210, 3), (.iastore, 1)] := zdcA_ok (by decide +kernel)
theorem dX8_all_261 : decode cX8_all 261 = .ok (.getfield 204, 3) := dX8_all_r261.1
theorem dX8_all_264 : decode cX8_all 264 = .ok (.iastore, 1) := dX8_all_r261.2.1
theorem dX8_all_265 : decode cX8_all 265 = .ok (.aload_n 1, 1) := dX8_all_r261.2.2.1
theorem dX8_all_266 : decode cX8_all 266 = .ok (.iload 4, 2) := dX8_all_r261.2.2.2.1
theorem dX8_all_268 : decode cX8_all 268 = .ok (.iconst 5, 1) := dX8_all_r261.2.2.2.2.1
theorem dX8_all_269 : decode cX8_all 269 = .ok (.iadd, 1) := dX8_all_r261.2.2.2.2.2.1
theorem dX8_all_270 : decode cX8_all 270 = .ok (.aload_n 0, 1) := dX8_all_r261.2.2.2.2.2.2.1
theorem dX8_all_271 : decode cX8_all 271 = .ok (.getfield 207, 3) := dX8_all_r261.2.2.2.2.2.2.2.1
theorem dX8_all_274 : decode cX8_all 274 = .ok (.iastore, 1) := dX8_all_r261.2.2.2.2.2.2.2.2.1
theorem dX8_all_275 : decode cX8_all 275 = .ok (.aload_n 1, 1) := dX8_all_r261.2.2.2.2.2.2.2.2.2.1
theorem dX8_all_276 : decode cX8_all 276 = .ok (.iload 4, 2) := dX8_all_r261.2.2.2.2.2.2.2.2.2.2.1
theorem dX8_all_278 : decode cX8_all 278 = .ok (.bipush 6, 2) := dX8_all_r261.2.2.2.2.2.2.2.2.2.2.2.1
theorem dX8_all_280 : decode cX8_all 280 = .ok (.iadd, 1) := dX8_all_r261.2.2.2.2.2.2.2.2.2.2.2.2.1
theorem dX8_all_281 : decode cX8_all 281 = .ok (.aload_n 0, 1) := dX8_all_r261.2.2.2.2.2.2.2.2.2.2.2.2.2.1
theorem dX8_all_282 : decode cX8_all 282 = .ok (.getfield 210, 3) := dX8_all_r261.2.2.2.2.2.2.2.2.2.2.2.2.2.2.1
theorem dX8_all_285 : decode cX8_all 285 = .ok (.iastore, 1) := dX8_all_r261.2.2.2.2.2.2.2.2.2.2.2.2.2.2.2.1
theorem dX8_all_r286 : zdcP cX8_all 286 [(.aload_n 1, 1), (.iload 4, 2), (.bipush 7, 2), (.iadd, 1), (.aload_n 0, 1), (.getfield 31, 3), (.iastore, 1), (.return_, 1)] := zdcA_ok (by decide +kernel)
theorem dX8_all_286 : decode cX8_all 286 = .ok (.aload_n 1, 1) := dX8_all_r286.1
theorem dX8_all_287 : decode cX8_all 287 = .ok (.iload 4, 2) := dX8_all_r286.2.1
theorem dX8_all_289 : decode cX8_all 289 = .ok (.bipush 7, 2) := dX8_all_r286.2.2.1
theorem dX8_all_291 : decode cX8_all 291 = .ok (.iadd, 1) := dX8_all_r286.2.2.2.1
theorem dX8_all_292 : decode cX8_all 292 = .ok (.aload_n 0, 1) := dX8_all_r286.2.2.2.2.1
theorem dX8_all_293 : decode cX8_all 293 = .ok (.getfield 31, 3) := dX8_all_r286.2.2.2.2.2.1
theorem dX8_all_296 : decode cX8_all 296 = .ok (.iastore, 1) := dX8_all_r286.2.2.2.2.2.2.1
theorem dX8_all_297 : decode cX8_all 297 = .ok (.return_, 1) := dX8_all_r286.2.2.2.2.2.2.2.1
def wq_161_82 (a1 : Nat) (n1 : Nat) (v2 : Int32) (v3 : Int32) (Q : zf_Me → Prop) : Nat → Int32 → Int32 → zf_Me → Prop
  | 0, _, _, _ => False
  | n + 1, v4, v5, m => ((v5.toInt ≥ 5 → ((v3.toInt = 0 → ((0 ≤ (Int32.toInt (v4 + 5)) ∧ (Int32.toInt (v4 + 5)) < (n1 : Int)) ∧ ∀ m11, m11 = zf_u m a1 (Int32.toInt (v4 + 5)).toNat (m.1 63 0) → ((0 ≤ (Int32.toInt ((v4 + 5) + 1)) ∧ (Int32.toInt ((v4 + 5) + 1)) < (n1 : Int)) ∧ ∀ m13, m13 = zf_u m11 a1 (Int32.toInt ((v4 + 5) + 1)).toNat (m11.1 63 1) → ((0 ≤ (Int32.toInt ((v4 + 5) + 2)) ∧ (Int32.toInt ((v4 + 5) + 2)) < (n1 : Int)) ∧ ∀ m15, m15 = zf_u m13 a1 (Int32.toInt ((v4 + 5) + 2)).toNat (m13.1 63 2) → ((0 ≤ (Int32.toInt ((v4 + 5) + 3)) ∧ (Int32.toInt ((v4 + 5) + 3)) < (n1 : Int)) ∧ ∀ m17, m17 = zf_u m15 a1 (Int32.toInt ((v4 + 5) + 3)).toNat (m15.1 63 3) → ((0 ≤ (Int32.toInt ((v4 + 5) + 4)) ∧ (Int32.toInt ((v4 + 5) + 4)) < (n1 : Int)) ∧ ∀ m19, m19 = zf_u m17 a1 (Int32.toInt ((v4 + 5) + 4)).toNat (m17.1 63 6) → ((0 ≤ (Int32.toInt ((v4 + 5) + 5)) ∧ (Int32.toInt ((v4 + 5) + 5)) < (n1 : Int)) ∧ ∀ m21, m21 = zf_u m19 a1 (Int32.toInt ((v4 + 5) + 5)).toNat (m19.1 63 10) → ((0 ≤ (Int32.toInt ((v4 + 5) + 6)) ∧ (Int32.toInt ((v4 + 5) + 6)) < (n1 : Int)) ∧ ∀ m23, m23 = zf_u m21 a1 (Int32.toInt ((v4 + 5) + 6)).toNat (m21.1 63 11) → ((0 ≤ (Int32.toInt ((v4 + 5) + 7)) ∧ (Int32.toInt ((v4 + 5) + 7)) < (n1 : Int)) ∧ ∀ m25, m25 = zf_u m23 a1 (Int32.toInt ((v4 + 5) + 7)).toNat (m23.1 63 12) → Q m25))))))))) ∧ (¬ v3.toInt = 0 → ((0 ≤ (Int32.toInt (v4 + 5)) ∧ (Int32.toInt (v4 + 5)) < (n1 : Int)) ∧ (∀ m27, m27 = zf_u m 63 0 (m.1 a1 (Int32.toInt (v4 + 5)).toNat) → ((0 ≤ (Int32.toInt ((v4 + 5) + 1)) ∧ (Int32.toInt ((v4 + 5) + 1)) < (n1 : Int)) ∧ (∀ m29, m29 = zf_u m27 63 1 (m27.1 a1 (Int32.toInt ((v4 + 5) + 1)).toNat) → ((0 ≤ (Int32.toInt ((v4 + 5) + 2)) ∧ (Int32.toInt ((v4 + 5) + 2)) < (n1 : Int)) ∧ (∀ m31, m31 = zf_u m29 63 2 (m29.1 a1 (Int32.toInt ((v4 + 5) + 2)).toNat) → ((0 ≤ (Int32.toInt ((v4 + 5) + 3)) ∧ (Int32.toInt ((v4 + 5) + 3)) < (n1 : Int)) ∧ (∀ m33, m33 = zf_u m31 63 3 (m31.1 a1 (Int32.toInt ((v4 + 5) + 3)).toNat) → ((0 ≤ (Int32.toInt ((v4 + 5) + 4)) ∧ (Int32.toInt ((v4 + 5) + 4)) < (n1 : Int)) ∧ (∀ m35, m35 = zf_u m33 63 6 (m33.1 a1 (Int32.toInt ((v4 + 5) + 4)).toNat) → ((0 ≤ (Int32.toInt ((v4 + 5) + 5)) ∧ (Int32.toInt ((v4 + 5) + 5)) < (n1 : Int)) ∧ (∀ m37, m37 = zf_u m35 63 10 (m35.1 a1 (Int32.toInt ((v4 + 5) + 5)).toNat) → ((0 ≤ (Int32.toInt ((v4 + 5) + 6)) ∧ (Int32.toInt ((v4 + 5) + 6)) < (n1 : Int)) ∧ (∀ m39, m39 = zf_u m37 63 11 (m37.1 a1 (Int32.toInt ((v4 + 5) + 6)).toNat) → ((0 ≤ (Int32.toInt ((v4 + 5) + 7)) ∧ (Int32.toInt ((v4 + 5) + 7)) < (n1 : Int)) ∧ (∀ m41, m41 = zf_u m39 63 12 (m39.1 a1 (Int32.toInt ((v4 + 5) + 7)).toNat) → Q m41))))))))))))))))))) ∧ (v5.toInt < 5 → ((v3.toInt = 0 → wp_147 v5 m (fun x43 m44 => ((0 ≤ (Int32.toInt (v4 + v5)) ∧ (Int32.toInt (v4 + v5)) < (n1 : Int)) ∧ ∀ m45, m45 = zf_u m44 a1 (Int32.toInt (v4 + v5)).toNat x43 → wq_161_82 a1 n1 v2 v3 Q n v4 (v5 + 1) m45))) ∧ (¬ v3.toInt = 0 → ((0 ≤ (Int32.toInt (v4 + v5)) ∧ (Int32.toInt (v4 + v5)) < (n1 : Int)) ∧ wp_148 v5 (m.1 a1 (Int32.toInt (v4 + v5)).toNat) m (fun m48 => wq_161_82 a1 n1 v2 v3 Q n v4 (v5 + 1) m48))))))
theorem zq_161_82 {d : Nat} (hd : 1 ≤ d) {a1 : Nat} {n1 : Nat} (hp1 : zf_arr a1 n1) {v2 : Int32} {v3 : Int32} {Q : zf_Me → Prop} : ∀ (n : Nat) (v4 : Int32) (v5 : Int32) (m : zf_Me), wq_161_82 a1 n1 v2 v3 Q n v4 v5 m → zf_W none 0 0 d zt_161 82 [some (.inr (.inr (1, 63))), some (.inr (.inr (1, a1))), none, some (.inl v3), some (.inl v4), some (.inl v5)] [] m (zf_O Q) := by
  obtain ⟨e, rfl⟩ : ∃ z, d = z + 1 := ⟨d - 1, by omega⟩
  intro n
  induction n with
  | zero =>
    intro v4 v5 m h
    exact h.elim
  | succ n ih =>
    intro v4 v5 m h
    unfold wq_161_82 at h
    refine zf_ld (pc' := 84) (v := .inl v5) dX8_all_82 rfl (fun _ _ _ => rfl) rfl rfl rfl ?_
    refine zf_ic (v := 5) (pc' := 85) dX8_all_84 rfl rfl ?_
    refine zf_icmp_ge (tgt := 127) (pc' := 88) dX8_all_85 rfl rfl (fun g => ?_) (fun g => ?_)
    · replace h := h.1 g
      refine zf_ii (y := (v4 + 5)) (L2 := [some (.inr (.inr (1, 63))), some (.inr (.inr (1, a1))), none, some (.inl v3), some (.inl (v4 + 5)), some (.inl v5)]) (pc' := 130) dX8_all_127 rfl rfl rfl rfl rfl ?_
      refine zf_ld (pc' := 131) (v := .inl v3) dX8_all_130 rfl (fun _ _ _ => rfl) rfl rfl rfl ?_
      refine zf_if_eq (tgt := 217) (pc' := 134) dX8_all_131 rfl rfl (fun g => ?_) (fun g => ?_)
      · replace h := h.1 g
        refine zf_ld (pc' := 218) (v := .inr (.inr (1, a1))) dX8_all_217 rfl (fun _ _ _ => rfl) rfl rfl rfl ?_
        refine zf_ld (pc' := 220) (v := .inl (v4 + 5)) dX8_all_218 rfl (fun _ _ _ => rfl) rfl rfl rfl ?_
        refine zf_ld (pc' := 221) (v := .inr (.inr (1, 63))) dX8_all_220 rfl (fun _ _ _ => rfl) rfl rfl rfl ?_
        refine zf_gfi (pc' := 224) dX8_all_221 rfl rfl (by decide) rfl rfl ?_
        refine zf_ias (pc' := 225) dX8_all_224 rfl hp1.1 hp1.2 h.1 rfl (fun m11 e12 => ?_)
        replace h := h.2 m11 e12
        refine zf_ld (pc' := 226) (v := .inr (.inr (1, a1))) dX8_all_225 rfl (fun _ _ _ => rfl) rfl rfl rfl ?_
        refine zf_ld (pc' := 228) (v := .inl (v4 + 5)) dX8_all_226 rfl (fun _ _ _ => rfl) rfl rfl rfl ?_
        refine zf_ic (v := 1) (pc' := 229) dX8_all_228 rfl rfl ?_
        refine zf_in (pc' := 230) (S' := [.inl ((v4 + 5) + 1), .inr (.inr (1, a1))]) dX8_all_229 rfl (fun _ _ _ => rfl) ?_
        refine zf_ld (pc' := 231) (v := .inr (.inr (1, 63))) dX8_all_230 rfl (fun _ _ _ => rfl) rfl rfl rfl ?_
        refine zf_gfi (pc' := 234) dX8_all_231 rfl rfl (by decide) rfl rfl ?_
        refine zf_ias (pc' := 235) dX8_all_234 rfl hp1.1 hp1.2 h.1 rfl (fun m13 e14 => ?_)
        replace h := h.2 m13 e14
        refine zf_ld (pc' := 236) (v := .inr (.inr (1, a1))) dX8_all_235 rfl (fun _ _ _ => rfl) rfl rfl rfl ?_
        refine zf_ld (pc' := 238) (v := .inl (v4 + 5)) dX8_all_236 rfl (fun _ _ _ => rfl) rfl rfl rfl ?_
        refine zf_ic (v := 2) (pc' := 239) dX8_all_238 rfl rfl ?_
        refine zf_in (pc' := 240) (S' := [.inl ((v4 + 5) + 2), .inr (.inr (1, a1))]) dX8_all_239 rfl (fun _ _ _ => rfl) ?_
        refine zf_ld (pc' := 241) (v := .inr (.inr (1, 63))) dX8_all_240 rfl (fun _ _ _ => rfl) rfl rfl rfl ?_
        refine zf_gfi (pc' := 244) dX8_all_241 rfl rfl (by decide) rfl rfl ?_
        refine zf_ias (pc' := 245) dX8_all_244 rfl hp1.1 hp1.2 h.1 rfl (fun m15 e16 => ?_)
        replace h := h.2 m15 e16
        refine zf_ld (pc' := 246) (v := .inr (.inr (1, a1))) dX8_all_245 rfl (fun _ _ _ => rfl) rfl rfl rfl ?_
        refine zf_ld (pc' := 248) (v := .inl (v4 + 5)) dX8_all_246 rfl (fun _ _ _ => rfl) rfl rfl rfl ?_
        refine zf_ic (v := 3) (pc' := 249) dX8_all_248 rfl rfl ?_
        refine zf_in (pc' := 250) (S' := [.inl ((v4 + 5) + 3), .inr (.inr (1, a1))]) dX8_all_249 rfl (fun _ _ _ => rfl) ?_
        refine zf_ld (pc' := 251) (v := .inr (.inr (1, 63))) dX8_all_250 rfl (fun _ _ _ => rfl) rfl rfl rfl ?_
        refine zf_gfi (pc' := 254) dX8_all_251 rfl rfl (by decide) rfl rfl ?_
        refine zf_ias (pc' := 255) dX8_all_254 rfl hp1.1 hp1.2 h.1 rfl (fun m17 e18 => ?_)
        replace h := h.2 m17 e18
        refine zf_ld (pc' := 256) (v := .inr (.inr (1, a1))) dX8_all_255 rfl (fun _ _ _ => rfl) rfl rfl rfl ?_
        refine zf_ld (pc' := 258) (v := .inl (v4 + 5)) dX8_all_256 rfl (fun _ _ _ => rfl) rfl rfl rfl ?_
        refine zf_ic (v := 4) (pc' := 259) dX8_all_258 rfl rfl ?_
        refine zf_in (pc' := 260) (S' := [.inl ((v4 + 5) + 4), .inr (.inr (1, a1))]) dX8_all_259 rfl (fun _ _ _ => rfl) ?_
        refine zf_ld (pc' := 261) (v := .inr (.inr (1, 63))) dX8_all_260 rfl (fun _ _ _ => rfl) rfl rfl rfl ?_
        refine zf_gfi (pc' := 264) dX8_all_261 rfl rfl (by decide) rfl rfl ?_
        refine zf_ias (pc' := 265) dX8_all_264 rfl hp1.1 hp1.2 h.1 rfl (fun m19 e20 => ?_)
        replace h := h.2 m19 e20
        refine zf_ld (pc' := 266) (v := .inr (.inr (1, a1))) dX8_all_265 rfl (fun _ _ _ => rfl) rfl rfl rfl ?_
        refine zf_ld (pc' := 268) (v := .inl (v4 + 5)) dX8_all_266 rfl (fun _ _ _ => rfl) rfl rfl rfl ?_
        refine zf_ic (v := 5) (pc' := 269) dX8_all_268 rfl rfl ?_
        refine zf_in (pc' := 270) (S' := [.inl ((v4 + 5) + 5), .inr (.inr (1, a1))]) dX8_all_269 rfl (fun _ _ _ => rfl) ?_
        refine zf_ld (pc' := 271) (v := .inr (.inr (1, 63))) dX8_all_270 rfl (fun _ _ _ => rfl) rfl rfl rfl ?_
        refine zf_gfi (pc' := 274) dX8_all_271 rfl rfl (by decide) rfl rfl ?_
        refine zf_ias (pc' := 275) dX8_all_274 rfl hp1.1 hp1.2 h.1 rfl (fun m21 e22 => ?_)
        replace h := h.2 m21 e22
        refine zf_ld (pc' := 276) (v := .inr (.inr (1, a1))) dX8_all_275 rfl (fun _ _ _ => rfl) rfl rfl rfl ?_
        refine zf_ld (pc' := 278) (v := .inl (v4 + 5)) dX8_all_276 rfl (fun _ _ _ => rfl) rfl rfl rfl ?_
        refine zf_bi (v := 6) (pc' := 280) dX8_all_278 rfl rfl ?_
        refine zf_in (pc' := 281) (S' := [.inl ((v4 + 5) + 6), .inr (.inr (1, a1))]) dX8_all_280 rfl (fun _ _ _ => rfl) ?_
        refine zf_ld (pc' := 282) (v := .inr (.inr (1, 63))) dX8_all_281 rfl (fun _ _ _ => rfl) rfl rfl rfl ?_
        refine zf_gfi (pc' := 285) dX8_all_282 rfl rfl (by decide) rfl rfl ?_
        refine zf_ias (pc' := 286) dX8_all_285 rfl hp1.1 hp1.2 h.1 rfl (fun m23 e24 => ?_)
        replace h := h.2 m23 e24
        refine zf_ld (pc' := 287) (v := .inr (.inr (1, a1))) dX8_all_286 rfl (fun _ _ _ => rfl) rfl rfl rfl ?_
        refine zf_ld (pc' := 289) (v := .inl (v4 + 5)) dX8_all_287 rfl (fun _ _ _ => rfl) rfl rfl rfl ?_
        refine zf_bi (v := 7) (pc' := 291) dX8_all_289 rfl rfl ?_
        refine zf_in (pc' := 292) (S' := [.inl ((v4 + 5) + 7), .inr (.inr (1, a1))]) dX8_all_291 rfl (fun _ _ _ => rfl) ?_
        refine zf_ld (pc' := 293) (v := .inr (.inr (1, 63))) dX8_all_292 rfl (fun _ _ _ => rfl) rfl rfl rfl ?_
        refine zf_gfi (pc' := 296) dX8_all_293 rfl rfl (by decide) rfl rfl ?_
        refine zf_ias (pc' := 297) dX8_all_296 rfl hp1.1 hp1.2 h.1 rfl (fun m25 e26 => ?_)
        replace h := h.2 m25 e26
        exact zf_rv dX8_all_297 rfl h
      · replace h := h.2 g
        refine zf_ld (pc' := 135) (v := .inr (.inr (1, 63))) dX8_all_134 rfl (fun _ _ _ => rfl) rfl rfl rfl ?_
        refine zf_ld (pc' := 136) (v := .inr (.inr (1, a1))) dX8_all_135 rfl (fun _ _ _ => rfl) rfl rfl rfl ?_
        refine zf_ld (pc' := 138) (v := .inl (v4 + 5)) dX8_all_136 rfl (fun _ _ _ => rfl) rfl rfl rfl ?_
        refine zf_ial (pc' := 139) dX8_all_138 rfl hp1.1 hp1.2 h.1 rfl ?_
        replace h := h.2
        refine zf_pf (pc' := 142) dX8_all_139 rfl rfl (by decide) rfl rfl rfl (fun m27 e28 => ?_)
        replace h := h m27 e28
        refine zf_ld (pc' := 143) (v := .inr (.inr (1, 63))) dX8_all_142 rfl (fun _ _ _ => rfl) rfl rfl rfl ?_
        refine zf_ld (pc' := 144) (v := .inr (.inr (1, a1))) dX8_all_143 rfl (fun _ _ _ => rfl) rfl rfl rfl ?_
        refine zf_ld (pc' := 146) (v := .inl (v4 + 5)) dX8_all_144 rfl (fun _ _ _ => rfl) rfl rfl rfl ?_
        refine zf_ic (v := 1) (pc' := 147) dX8_all_146 rfl rfl ?_
        refine zf_in (pc' := 148) (S' := [.inl ((v4 + 5) + 1), .inr (.inr (1, a1)), .inr (.inr (1, 63))]) dX8_all_147 rfl (fun _ _ _ => rfl) ?_
        refine zf_ial (pc' := 149) dX8_all_148 rfl hp1.1 hp1.2 h.1 rfl ?_
        replace h := h.2
        refine zf_pf (pc' := 152) dX8_all_149 rfl rfl (by decide) rfl rfl rfl (fun m29 e30 => ?_)
        replace h := h m29 e30
        refine zf_ld (pc' := 153) (v := .inr (.inr (1, 63))) dX8_all_152 rfl (fun _ _ _ => rfl) rfl rfl rfl ?_
        refine zf_ld (pc' := 154) (v := .inr (.inr (1, a1))) dX8_all_153 rfl (fun _ _ _ => rfl) rfl rfl rfl ?_
        refine zf_ld (pc' := 156) (v := .inl (v4 + 5)) dX8_all_154 rfl (fun _ _ _ => rfl) rfl rfl rfl ?_
        refine zf_ic (v := 2) (pc' := 157) dX8_all_156 rfl rfl ?_
        refine zf_in (pc' := 158) (S' := [.inl ((v4 + 5) + 2), .inr (.inr (1, a1)), .inr (.inr (1, 63))]) dX8_all_157 rfl (fun _ _ _ => rfl) ?_
        refine zf_ial (pc' := 159) dX8_all_158 rfl hp1.1 hp1.2 h.1 rfl ?_
        replace h := h.2
        refine zf_pf (pc' := 162) dX8_all_159 rfl rfl (by decide) rfl rfl rfl (fun m31 e32 => ?_)
        replace h := h m31 e32
        refine zf_ld (pc' := 163) (v := .inr (.inr (1, 63))) dX8_all_162 rfl (fun _ _ _ => rfl) rfl rfl rfl ?_
        refine zf_ld (pc' := 164) (v := .inr (.inr (1, a1))) dX8_all_163 rfl (fun _ _ _ => rfl) rfl rfl rfl ?_
        refine zf_ld (pc' := 166) (v := .inl (v4 + 5)) dX8_all_164 rfl (fun _ _ _ => rfl) rfl rfl rfl ?_
        refine zf_ic (v := 3) (pc' := 167) dX8_all_166 rfl rfl ?_
        refine zf_in (pc' := 168) (S' := [.inl ((v4 + 5) + 3), .inr (.inr (1, a1)), .inr (.inr (1, 63))]) dX8_all_167 rfl (fun _ _ _ => rfl) ?_
        refine zf_ial (pc' := 169) dX8_all_168 rfl hp1.1 hp1.2 h.1 rfl ?_
        replace h := h.2
        refine zf_pf (pc' := 172) dX8_all_169 rfl rfl (by decide) rfl rfl rfl (fun m33 e34 => ?_)
        replace h := h m33 e34
        refine zf_ld (pc' := 173) (v := .inr (.inr (1, 63))) dX8_all_172 rfl (fun _ _ _ => rfl) rfl rfl rfl ?_
        refine zf_ld (pc' := 174) (v := .inr (.inr (1, a1))) dX8_all_173 rfl (fun _ _ _ => rfl) rfl rfl rfl ?_
        refine zf_ld (pc' := 176) (v := .inl (v4 + 5)) dX8_all_174 rfl (fun _ _ _ => rfl) rfl rfl rfl ?_
        refine zf_ic (v := 4) (pc' := 177) dX8_all_176 rfl rfl ?_
        refine zf_in (pc' := 178) (S' := [.inl ((v4 + 5) + 4), .inr (.inr (1, a1)), .inr (.inr (1, 63))]) dX8_all_177 rfl (fun _ _ _ => rfl) ?_
        refine zf_ial (pc' := 179) dX8_all_178 rfl hp1.1 hp1.2 h.1 rfl ?_
        replace h := h.2
        refine zf_pf (pc' := 182) dX8_all_179 rfl rfl (by decide) rfl rfl rfl (fun m35 e36 => ?_)
        replace h := h m35 e36
        refine zf_ld (pc' := 183) (v := .inr (.inr (1, 63))) dX8_all_182 rfl (fun _ _ _ => rfl) rfl rfl rfl ?_
        refine zf_ld (pc' := 184) (v := .inr (.inr (1, a1))) dX8_all_183 rfl (fun _ _ _ => rfl) rfl rfl rfl ?_
        refine zf_ld (pc' := 186) (v := .inl (v4 + 5)) dX8_all_184 rfl (fun _ _ _ => rfl) rfl rfl rfl ?_
        refine zf_ic (v := 5) (pc' := 187) dX8_all_186 rfl rfl ?_
        refine zf_in (pc' := 188) (S' := [.inl ((v4 + 5) + 5), .inr (.inr (1, a1)), .inr (.inr (1, 63))]) dX8_all_187 rfl (fun _ _ _ => rfl) ?_
        refine zf_ial (pc' := 189) dX8_all_188 rfl hp1.1 hp1.2 h.1 rfl ?_
        replace h := h.2
        refine zf_pf (pc' := 192) dX8_all_189 rfl rfl (by decide) rfl rfl rfl (fun m37 e38 => ?_)
        replace h := h m37 e38
        refine zf_ld (pc' := 193) (v := .inr (.inr (1, 63))) dX8_all_192 rfl (fun _ _ _ => rfl) rfl rfl rfl ?_
        refine zf_ld (pc' := 194) (v := .inr (.inr (1, a1))) dX8_all_193 rfl (fun _ _ _ => rfl) rfl rfl rfl ?_
        refine zf_ld (pc' := 196) (v := .inl (v4 + 5)) dX8_all_194 rfl (fun _ _ _ => rfl) rfl rfl rfl ?_
        refine zf_bi (v := 6) (pc' := 198) dX8_all_196 rfl rfl ?_
        refine zf_in (pc' := 199) (S' := [.inl ((v4 + 5) + 6), .inr (.inr (1, a1)), .inr (.inr (1, 63))]) dX8_all_198 rfl (fun _ _ _ => rfl) ?_
        refine zf_ial (pc' := 200) dX8_all_199 rfl hp1.1 hp1.2 h.1 rfl ?_
        replace h := h.2
        refine zf_pf (pc' := 203) dX8_all_200 rfl rfl (by decide) rfl rfl rfl (fun m39 e40 => ?_)
        replace h := h m39 e40
        refine zf_ld (pc' := 204) (v := .inr (.inr (1, 63))) dX8_all_203 rfl (fun _ _ _ => rfl) rfl rfl rfl ?_
        refine zf_ld (pc' := 205) (v := .inr (.inr (1, a1))) dX8_all_204 rfl (fun _ _ _ => rfl) rfl rfl rfl ?_
        refine zf_ld (pc' := 207) (v := .inl (v4 + 5)) dX8_all_205 rfl (fun _ _ _ => rfl) rfl rfl rfl ?_
        refine zf_bi (v := 7) (pc' := 209) dX8_all_207 rfl rfl ?_
        refine zf_in (pc' := 210) (S' := [.inl ((v4 + 5) + 7), .inr (.inr (1, a1)), .inr (.inr (1, 63))]) dX8_all_209 rfl (fun _ _ _ => rfl) ?_
        refine zf_ial (pc' := 211) dX8_all_210 rfl hp1.1 hp1.2 h.1 rfl ?_
        replace h := h.2
        refine zf_pf (pc' := 214) dX8_all_211 rfl rfl (by decide) rfl rfl rfl (fun m41 e42 => ?_)
        replace h := h m41 e42
        refine zf_goto (tgt := 297) dX8_all_214 rfl ?_
        exact zf_rv dX8_all_297 rfl h
    · replace h := h.2 g
      refine zf_ld (pc' := 89) (v := .inl v3) dX8_all_88 rfl (fun _ _ _ => rfl) rfl rfl rfl ?_
      refine zf_if_eq (tgt := 108) (pc' := 92) dX8_all_89 rfl rfl (fun g => ?_) (fun g => ?_)
      · replace h := h.1 g
        refine zf_ld (pc' := 109) (v := .inr (.inr (1, a1))) dX8_all_108 rfl (fun _ _ _ => rfl) rfl rfl rfl ?_
        refine zf_ld (pc' := 111) (v := .inl v4) dX8_all_109 rfl (fun _ _ _ => rfl) rfl rfl rfl ?_
        refine zf_ld (pc' := 113) (v := .inl v5) dX8_all_111 rfl (fun _ _ _ => rfl) rfl rfl rfl ?_
        refine zf_in (pc' := 114) (S' := [.inl (v4 + v5), .inr (.inr (1, a1))]) dX8_all_113 rfl (fun _ _ _ => rfl) ?_
        refine zf_ld (pc' := 115) (v := .inr (.inr (1, 63))) dX8_all_114 rfl (fun _ _ _ => rfl) rfl rfl rfl ?_
        refine zf_ld (pc' := 117) (v := .inl v5) dX8_all_115 rfl (fun _ _ _ => rfl) rfl rfl rfl ?_
        refine zf_iv (k := 147) (pc' := 120) (r := [.inl (v4 + v5), .inr (.inr (1, a1))]) dX8_all_117 rfl rfl rfl rfl (by decide) rfl rfl rfl (zr_147 (by omega) h) (zf_kI (fun x43 m44 h => ?_))
        refine zf_ias (pc' := 121) dX8_all_120 rfl hp1.1 hp1.2 h.1 rfl (fun m45 e46 => ?_)
        replace h := h.2 m45 e46
        refine zf_ii (y := (v5 + 1)) (L2 := [some (.inr (.inr (1, 63))), some (.inr (.inr (1, a1))), none, some (.inl v3), some (.inl v4), some (.inl (v5 + 1))]) (pc' := 124) dX8_all_121 rfl rfl rfl rfl rfl ?_
        refine zf_goto (tgt := 82) dX8_all_124 rfl ?_
        exact zf_lo (ih _ _ _ h) ⟨rfl, rfl, rfl, rfl, rfl, trivial⟩
      · replace h := h.2 g
        refine zf_ld (pc' := 93) (v := .inr (.inr (1, 63))) dX8_all_92 rfl (fun _ _ _ => rfl) rfl rfl rfl ?_
        refine zf_ld (pc' := 95) (v := .inl v5) dX8_all_93 rfl (fun _ _ _ => rfl) rfl rfl rfl ?_
        refine zf_ld (pc' := 96) (v := .inr (.inr (1, a1))) dX8_all_95 rfl (fun _ _ _ => rfl) rfl rfl rfl ?_
        refine zf_ld (pc' := 98) (v := .inl v4) dX8_all_96 rfl (fun _ _ _ => rfl) rfl rfl rfl ?_
        refine zf_ld (pc' := 100) (v := .inl v5) dX8_all_98 rfl (fun _ _ _ => rfl) rfl rfl rfl ?_
        refine zf_in (pc' := 101) (S' := [.inl (v4 + v5), .inr (.inr (1, a1)), .inl v5, .inr (.inr (1, 63))]) dX8_all_100 rfl (fun _ _ _ => rfl) ?_
        refine zf_ial (pc' := 102) dX8_all_101 rfl hp1.1 hp1.2 h.1 rfl ?_
        replace h := h.2
        refine zf_iv (k := 148) (pc' := 105) (r := []) dX8_all_102 rfl rfl rfl rfl (by decide) rfl rfl rfl (zr_148 (by omega) h) (zf_kO (fun m48 h => ?_))
        refine zf_goto (tgt := 121) dX8_all_105 rfl ?_
        refine zf_ii (y := (v5 + 1)) (L2 := [some (.inr (.inr (1, 63))), some (.inr (.inr (1, a1))), none, some (.inl v3), some (.inl v4), some (.inl (v5 + 1))]) (pc' := 124) dX8_all_121 rfl rfl rfl rfl rfl ?_
        refine zf_goto (tgt := 82) dX8_all_124 rfl ?_
        exact zf_lo (ih _ _ _ h) ⟨rfl, rfl, rfl, rfl, rfl, trivial⟩
def wp_161 (a1 : Nat) (n1 : Nat) (v2 : Int32) (v3 : Int32) (m : zf_Me) (Q : zf_Me → Prop) : Prop := wp_160 65 24 a1 n1 24 v2 v3 m (fun x1 m2 => wp_160 66 24 a1 n1 24 x1 v3 m2 (fun x3 m4 => wp_160 67 6 a1 n1 6 x3 v3 m4 (fun x5 m6 => wp_160 68 6 a1 n1 6 x5 v3 m6 (fun x7 m8 => wp_160 69 6 a1 n1 6 x7 v3 m8 (fun x9 m10 => (∃ n82, wq_161_82 a1 n1 v2 v3 Q n82 x9 0 m10))))))
theorem zr_161 {d : Nat} (hd : 1 ≤ d) {a1 : Nat} {n1 : Nat} (hp1 : zf_arr a1 n1) {v2 : Int32} {v3 : Int32} {Q : zf_Me → Prop} {m : zf_Me} (h : wp_161 a1 n1 v2 v3 m Q) : zf_M d 161 [.inr (.inr (1, 63)), .inr (.inr (1, a1)), .inl v2, .inl v3] m (zf_O Q) := by
  obtain ⟨e, rfl⟩ : ∃ z, d = z + 1 := ⟨d - 1, by omega⟩
  unfold wp_161 at h
  refine zf_M_of (Nat.le_of_ble_eq_true rfl) zm_161 (L := [some (.inr (.inr (1, 63))), some (.inr (.inr (1, a1))), some (.inl v2), some (.inl v3), none, none]) rfl ?_
  refine zf_ld (pc' := 1) (v := .inr (.inr (1, 63))) dX8_all_0 rfl (fun _ _ _ => rfl) rfl rfl rfl ?_
  refine zf_ld (pc' := 2) (v := .inr (.inr (1, 63))) dX8_all_1 rfl (fun _ _ _ => rfl) rfl rfl rfl ?_
  refine zf_gfr (pc' := 5) (b := 65) dX8_all_2 rfl rfl (by decide) rfl rfl ?_
  refine zf_bi (v := 24) (pc' := 7) dX8_all_5 rfl rfl ?_
  refine zf_ld (pc' := 8) (v := .inr (.inr (1, a1))) dX8_all_7 rfl (fun _ _ _ => rfl) rfl rfl rfl ?_
  refine zf_ld (pc' := 9) (v := .inl v2) dX8_all_8 rfl (fun _ _ _ => rfl) rfl rfl rfl ?_
  refine zf_ld (pc' := 10) (v := .inl v3) dX8_all_9 rfl (fun _ _ _ => rfl) rfl rfl rfl ?_
  refine zf_iv (k := 160) (pc' := 13) (r := []) dX8_all_10 rfl rfl rfl rfl (by decide) rfl rfl rfl (zr_160 (by omega) (⟨by decide, rfl⟩ : zf_arr 65 24) hp1 h) (zf_kI (fun x1 m2 h => ?_))
  refine zf_st (pc' := 15) (L2 := [some (.inr (.inr (1, 63))), some (.inr (.inr (1, a1))), some (.inl v2), some (.inl v3), some (.inl x1), none]) dX8_all_13 rfl (fun _ _ _ => rfl) rfl rfl rfl rfl rfl rfl ?_
  refine zf_ld (pc' := 16) (v := .inr (.inr (1, 63))) dX8_all_15 rfl (fun _ _ _ => rfl) rfl rfl rfl ?_
  refine zf_ld (pc' := 17) (v := .inr (.inr (1, 63))) dX8_all_16 rfl (fun _ _ _ => rfl) rfl rfl rfl ?_
  refine zf_gfr (pc' := 20) (b := 66) dX8_all_17 rfl rfl (by decide) rfl rfl ?_
  refine zf_bi (v := 24) (pc' := 22) dX8_all_20 rfl rfl ?_
  refine zf_ld (pc' := 23) (v := .inr (.inr (1, a1))) dX8_all_22 rfl (fun _ _ _ => rfl) rfl rfl rfl ?_
  refine zf_ld (pc' := 25) (v := .inl x1) dX8_all_23 rfl (fun _ _ _ => rfl) rfl rfl rfl ?_
  refine zf_ld (pc' := 26) (v := .inl v3) dX8_all_25 rfl (fun _ _ _ => rfl) rfl rfl rfl ?_
  refine zf_iv (k := 160) (pc' := 29) (r := []) dX8_all_26 rfl rfl rfl rfl (by decide) rfl rfl rfl (zr_160 (by omega) (⟨by decide, rfl⟩ : zf_arr 66 24) hp1 h) (zf_kI (fun x3 m4 h => ?_))
  refine zf_st (pc' := 31) (L2 := [some (.inr (.inr (1, 63))), some (.inr (.inr (1, a1))), some (.inl v2), some (.inl v3), some (.inl x3), none]) dX8_all_29 rfl (fun _ _ _ => rfl) rfl rfl rfl rfl rfl rfl ?_
  refine zf_ld (pc' := 32) (v := .inr (.inr (1, 63))) dX8_all_31 rfl (fun _ _ _ => rfl) rfl rfl rfl ?_
  refine zf_ld (pc' := 33) (v := .inr (.inr (1, 63))) dX8_all_32 rfl (fun _ _ _ => rfl) rfl rfl rfl ?_
  refine zf_gfr (pc' := 36) (b := 67) dX8_all_33 rfl rfl (by decide) rfl rfl ?_
  refine zf_bi (v := 6) (pc' := 38) dX8_all_36 rfl rfl ?_
  refine zf_ld (pc' := 39) (v := .inr (.inr (1, a1))) dX8_all_38 rfl (fun _ _ _ => rfl) rfl rfl rfl ?_
  refine zf_ld (pc' := 41) (v := .inl x3) dX8_all_39 rfl (fun _ _ _ => rfl) rfl rfl rfl ?_
  refine zf_ld (pc' := 42) (v := .inl v3) dX8_all_41 rfl (fun _ _ _ => rfl) rfl rfl rfl ?_
  refine zf_iv (k := 160) (pc' := 45) (r := []) dX8_all_42 rfl rfl rfl rfl (by decide) rfl rfl rfl (zr_160 (by omega) (⟨by decide, rfl⟩ : zf_arr 67 6) hp1 h) (zf_kI (fun x5 m6 h => ?_))
  refine zf_st (pc' := 47) (L2 := [some (.inr (.inr (1, 63))), some (.inr (.inr (1, a1))), some (.inl v2), some (.inl v3), some (.inl x5), none]) dX8_all_45 rfl (fun _ _ _ => rfl) rfl rfl rfl rfl rfl rfl ?_
  refine zf_ld (pc' := 48) (v := .inr (.inr (1, 63))) dX8_all_47 rfl (fun _ _ _ => rfl) rfl rfl rfl ?_
  refine zf_ld (pc' := 49) (v := .inr (.inr (1, 63))) dX8_all_48 rfl (fun _ _ _ => rfl) rfl rfl rfl ?_
  refine zf_gfr (pc' := 52) (b := 68) dX8_all_49 rfl rfl (by decide) rfl rfl ?_
  refine zf_bi (v := 6) (pc' := 54) dX8_all_52 rfl rfl ?_
  refine zf_ld (pc' := 55) (v := .inr (.inr (1, a1))) dX8_all_54 rfl (fun _ _ _ => rfl) rfl rfl rfl ?_
  refine zf_ld (pc' := 57) (v := .inl x5) dX8_all_55 rfl (fun _ _ _ => rfl) rfl rfl rfl ?_
  refine zf_ld (pc' := 58) (v := .inl v3) dX8_all_57 rfl (fun _ _ _ => rfl) rfl rfl rfl ?_
  refine zf_iv (k := 160) (pc' := 61) (r := []) dX8_all_58 rfl rfl rfl rfl (by decide) rfl rfl rfl (zr_160 (by omega) (⟨by decide, rfl⟩ : zf_arr 68 6) hp1 h) (zf_kI (fun x7 m8 h => ?_))
  refine zf_st (pc' := 63) (L2 := [some (.inr (.inr (1, 63))), some (.inr (.inr (1, a1))), some (.inl v2), some (.inl v3), some (.inl x7), none]) dX8_all_61 rfl (fun _ _ _ => rfl) rfl rfl rfl rfl rfl rfl ?_
  refine zf_ld (pc' := 64) (v := .inr (.inr (1, 63))) dX8_all_63 rfl (fun _ _ _ => rfl) rfl rfl rfl ?_
  refine zf_ld (pc' := 65) (v := .inr (.inr (1, 63))) dX8_all_64 rfl (fun _ _ _ => rfl) rfl rfl rfl ?_
  refine zf_gfr (pc' := 68) (b := 69) dX8_all_65 rfl rfl (by decide) rfl rfl ?_
  refine zf_bi (v := 6) (pc' := 70) dX8_all_68 rfl rfl ?_
  refine zf_ld (pc' := 71) (v := .inr (.inr (1, a1))) dX8_all_70 rfl (fun _ _ _ => rfl) rfl rfl rfl ?_
  refine zf_ld (pc' := 73) (v := .inl x7) dX8_all_71 rfl (fun _ _ _ => rfl) rfl rfl rfl ?_
  refine zf_ld (pc' := 74) (v := .inl v3) dX8_all_73 rfl (fun _ _ _ => rfl) rfl rfl rfl ?_
  refine zf_iv (k := 160) (pc' := 77) (r := []) dX8_all_74 rfl rfl rfl rfl (by decide) rfl rfl rfl (zr_160 (by omega) (⟨by decide, rfl⟩ : zf_arr 69 6) hp1 h) (zf_kI (fun x9 m10 h => ?_))
  refine zf_st (pc' := 79) (L2 := [some (.inr (.inr (1, 63))), some (.inr (.inr (1, a1))), some (.inl v2), some (.inl v3), some (.inl x9), none]) dX8_all_77 rfl (fun _ _ _ => rfl) rfl rfl rfl rfl rfl rfl ?_
  refine zf_ic (v := 0) (pc' := 80) dX8_all_79 rfl rfl ?_
  refine zf_st (pc' := 82) (L2 := [some (.inr (.inr (1, 63))), some (.inr (.inr (1, a1))), some (.inl v2), some (.inl v3), some (.inl x9), some (.inl 0)]) dX8_all_80 rfl (fun _ _ _ => rfl) rfl rfl rfl rfl rfl rfl ?_
  obtain ⟨n82, h⟩ := h
  exact zf_lo (zq_161_82 (by omega) hp1 n82 _ _ _ h) ⟨rfl, rfl, rfl, rfl, rfl, trivial⟩
