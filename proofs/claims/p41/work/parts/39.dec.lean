section
/-! part 39: methods 159..: laid by wip/flat/dec.py -/
def zt_159 : zx_MT := (8, yX8_item, cX8_item, 4, (some FieldType.boolean), 0, 0)
theorem zm_159 : zx_m 159 = zt_159 := rfl
theorem dX8_item_r0 : zdcP cX8_item 0 [(.aload_n 0, 1), (.iconst 0, 1), (.invokevirtual 183, 3), (.ifCond .ne 11, 3), (.aload_n 0, 1), (.iconst 1, 1), (.invokevirtual 183, 3), (.ifCond .eq 12, 3), (.aload_n 0, 1), (.getfield 108, 3), (.bipush 24, 2), (.if_icmp .eq 35, 3), (.aload_n 0, 1), (.iconst 2, 1), (.invokevirtual 183, 3), (.ifCond .eq 10, 3)] := zdcA_ok (by decide +kernel)
theorem dX8_item_0 : decode cX8_item 0 = .ok (.aload_n 0, 1) := dX8_item_r0.1
theorem dX8_item_1 : decode cX8_item 1 = .ok (.iconst 0, 1) := dX8_item_r0.2.1
theorem dX8_item_2 : decode cX8_item 2 = .ok (.invokevirtual 183, 3) := dX8_item_r0.2.2.1
theorem dX8_item_5 : decode cX8_item 5 = .ok (.ifCond .ne 11, 3) := dX8_item_r0.2.2.2.1
theorem dX8_item_8 : decode cX8_item 8 = .ok (.aload_n 0, 1) := dX8_item_r0.2.2.2.2.1
theorem dX8_item_9 : decode cX8_item 9 = .ok (.iconst 1, 1) := dX8_item_r0.2.2.2.2.2.1
theorem dX8_item_10 : decode cX8_item 10 = .ok (.invokevirtual 183, 3) := dX8_item_r0.2.2.2.2.2.2.1
theorem dX8_item_13 : decode cX8_item 13 = .ok (.ifCond .eq 12, 3) := dX8_item_r0.2.2.2.2.2.2.2.1
theorem dX8_item_16 : decode cX8_item 16 = .ok (.aload_n 0, 1) := dX8_item_r0.2.2.2.2.2.2.2.2.1
theorem dX8_item_17 : decode cX8_item 17 = .ok (.getfield 108, 3) := dX8_item_r0.2.2.2.2.2.2.2.2.2.1
theorem dX8_item_20 : decode cX8_item 20 = .ok (.bipush 24, 2) := dX8_item_r0.2.2.2.2.2.2.2.2.2.2.1
theorem dX8_item_22 : decode cX8_item 22 = .ok (.if_icmp .eq 35, 3) := dX8_item_r0.2.2.2.2.2.2.2.2.2.2.2.1
theorem dX8_item_25 : decode cX8_item 25 = .ok (.aload_n 0, 1) := dX8_item_r0.2.2.2.2.2.2.2.2.2.2.2.2.1
theorem dX8_item_26 : decode cX8_item 26 = .ok (.iconst 2, 1) := dX8_item_r0.2.2.2.2.2.2.2.2.2.2.2.2.2.1
theorem dX8_item_27 : decode cX8_item 27 = .ok (.invokevirtual 183, 3) := dX8_item_r0.2.2.2.2.2.2.2.2.2.2.2.2.2.2.1
theorem dX8_item_30 : decode cX8_item 30 = .ok (.ifCond .eq 10, 3) := dX8_item_r0.2.2.2.2.2.2.2.2.2.2.2.2.2.2.2.1
theorem dX8_item_r33 : zdcP cX8_item 33 [(.aload_n 0, 1), (.getfield 108, 3), (.ifCond .eq 20, 3), (.aload_n 0, 1), (.iconst 3, 1), (.invokevirtual 183, 3), (.ifCond .eq 21, 3), (.aload_n 0, 1), (.getfield 105, 3), (.bipush 6, 2), (.if_icmp .ne 12, 3), (.aload_n 0, 1), (.aload_n 0, 1), (.getfield 162, 3), (.invokevirtual 177, 3), (.ireturn, 1)] := zdcA_ok (by decide +kernel)
theorem dX8_item_33 : decode cX8_item 33 = .ok (.aload_n 0, 1) := dX8_item_r33.1
theorem dX8_item_34 : decode cX8_item 34 = .ok (.getfield 108, 3) := dX8_item_r33.2.1
theorem dX8_item_37 : decode cX8_item 37 = .ok (.ifCond .eq 20, 3) := dX8_item_r33.2.2.1
theorem dX8_item_40 : decode cX8_item 40 = .ok (.aload_n 0, 1) := dX8_item_r33.2.2.2.1
theorem dX8_item_41 : decode cX8_item 41 = .ok (.iconst 3, 1) := dX8_item_r33.2.2.2.2.1
theorem dX8_item_42 : decode cX8_item 42 = .ok (.invokevirtual 183, 3) := dX8_item_r33.2.2.2.2.2.1
theorem dX8_item_45 : decode cX8_item 45 = .ok (.ifCond .eq 21, 3) := dX8_item_r33.2.2.2.2.2.2.1
theorem dX8_item_48 : decode cX8_item 48 = .ok (.aload_n 0, 1) := dX8_item_r33.2.2.2.2.2.2.2.1
theorem dX8_item_49 : decode cX8_item 49 = .ok (.getfield 105, 3) := dX8_item_r33.2.2.2.2.2.2.2.2.1
theorem dX8_item_52 : decode cX8_item 52 = .ok (.bipush 6, 2) := dX8_item_r33.2.2.2.2.2.2.2.2.2.1
theorem dX8_item_54 : decode cX8_item 54 = .ok (.if_icmp .ne 12, 3) := dX8_item_r33.2.2.2.2.2.2.2.2.2.2.1
theorem dX8_item_57 : decode cX8_item 57 = .ok (.aload_n 0, 1) := dX8_item_r33.2.2.2.2.2.2.2.2.2.2.2.1
theorem dX8_item_58 : decode cX8_item 58 = .ok (.aload_n 0, 1) := dX8_item_r33.2.2.2.2.2.2.2.2.2.2.2.2.1
theorem dX8_item_59 : decode cX8_item 59 = .ok (.getfield 162, 3) := dX8_item_r33.2.2.2.2.2.2.2.2.2.2.2.2.2.1
theorem dX8_item_62 : decode cX8_item 62 = .ok (.invokevirtual 177, 3) := dX8_item_r33.2.2.2.2.2.2.2.2.2.2.2.2.2.2.1
theorem dX8_item_65 : decode cX8_item 65 = .ok (.ireturn, 1) := dX8_item_r33.2.2.2.2.2.2.2.2.2.2.2.2.2.2.2.1
theorem dX8_item_r66 : zdcP cX8_item 66 [(.aload_n 0, 1), (.invokevirtual 186, 3), (.istore_n 1, 1), (.iload_n 1, 1), (.iconst (-1), 1), (.if_icmp .ne 5, 3), (.iconst 0, 1), (.ireturn, 1), (.iconst 0, 1), (.istore_n 2, 1), (.iload_n 2, 1), (.aload_n 0, 1), (.getfield 78, 3), (.iload_n 1, 1), (.iaload, 1), (.if_icmp .ge 102, 3)] := zdcA_ok (by decide +kernel)
theorem dX8_item_66 : decode cX8_item 66 = .ok (.aload_n 0, 1) := dX8_item_r66.1
theorem dX8_item_67 : decode cX8_item 67 = .ok (.invokevirtual 186, 3) := dX8_item_r66.2.1
theorem dX8_item_70 : decode cX8_item 70 = .ok (.istore_n 1, 1) := dX8_item_r66.2.2.1
theorem dX8_item_71 : decode cX8_item 71 = .ok (.iload_n 1, 1) := dX8_item_r66.2.2.2.1
theorem dX8_item_72 : decode cX8_item 72 = .ok (.iconst (-1), 1) := dX8_item_r66.2.2.2.2.1
theorem dX8_item_73 : decode cX8_item 73 = .ok (.if_icmp .ne 5, 3) := dX8_item_r66.2.2.2.2.2.1
theorem dX8_item_76 : decode cX8_item 76 = .ok (.iconst 0, 1) := dX8_item_r66.2.2.2.2.2.2.1
theorem dX8_item_77 : decode cX8_item 77 = .ok (.ireturn, 1) := dX8_item_r66.2.2.2.2.2.2.2.1
theorem dX8_item_78 : decode cX8_item 78 = .ok (.iconst 0, 1) := dX8_item_r66.2.2.2.2.2.2.2.2.1
theorem dX8_item_79 : decode cX8_item 79 = .ok (.istore_n 2, 1) := dX8_item_r66.2.2.2.2.2.2.2.2.2.1
theorem dX8_item_80 : decode cX8_item 80 = .ok (.iload_n 2, 1) := dX8_item_r66.2.2.2.2.2.2.2.2.2.2.1
theorem dX8_item_81 : decode cX8_item 81 = .ok (.aload_n 0, 1) := dX8_item_r66.2.2.2.2.2.2.2.2.2.2.2.1
theorem dX8_item_82 : decode cX8_item 82 = .ok (.getfield 78, 3) := dX8_item_r66.2.2.2.2.2.2.2.2.2.2.2.2.1
theorem dX8_item_85 : decode cX8_item 85 = .ok (.iload_n 1, 1) := dX8_item_r66.2.2.2.2.2.2.2.2.2.2.2.2.2.1
theorem dX8_item_86 : decode cX8_item 86 = .ok (.iaload, 1) := dX8_item_r66.2.2.2.2.2.2.2.2.2.2.2.2.2.2.1
theorem dX8_item_87 : decode cX8_item 87 = .ok (.if_icmp .ge 102, 3) := dX8_item_r66.2.2.2.2.2.2.2.2.2.2.2.2.2.2.2.1
theorem dX8_item_r90 : zdcP cX8_item 90 [(.iload_n 2, 1), (.ifCond .le 53, 3), (.aload_n 0, 1), (.getfield 162, 3), (.aload_n 0, 1), (.getfield 165, 3), (.if_icmp .ge 23, 3), (.aload_n 0, 1), (.getfield 68, 3), (.aload_n 0, 1), (.getfield 168, 3), (.aload_n 0, 1), (.getfield 162, 3), (.iadd, 1), (.laload, 1), (.l2i, 1)] := zdcA_ok (by decide +kernel)
theorem dX8_item_90 : decode cX8_item 90 = .ok (.iload_n 2, 1) := dX8_item_r90.1
theorem dX8_item_91 : decode cX8_item 91 = .ok (.ifCond .le 53, 3) := dX8_item_r90.2.1
theorem dX8_item_94 : decode cX8_item 94 = .ok (.aload_n 0, 1) := dX8_item_r90.2.2.1
theorem dX8_item_95 : decode cX8_item 95 = .ok (.getfield 162, 3) := dX8_item_r90.2.2.2.1
theorem dX8_item_98 : decode cX8_item 98 = .ok (.aload_n 0, 1) := dX8_item_r90.2.2.2.2.1
theorem dX8_item_99 : decode cX8_item 99 = .ok (.getfield 165, 3) := dX8_item_r90.2.2.2.2.2.1
theorem dX8_item_102 : decode cX8_item 102 = .ok (.if_icmp .ge 23, 3) := dX8_item_r90.2.2.2.2.2.2.1
theorem dX8_item_105 : decode cX8_item 105 = .ok (.aload_n 0, 1) := dX8_item_r90.2.2.2.2.2.2.2.1
theorem dX8_item_106 : decode cX8_item 106 = .ok (.getfield 68, 3) := dX8_item_r90.2.2.2.2.2.2.2.2.1
theorem dX8_item_109 : decode cX8_item 109 = .ok (.aload_n 0, 1) := dX8_item_r90.2.2.2.2.2.2.2.2.2.1
theorem dX8_item_110 : decode cX8_item 110 = .ok (.getfield 168, 3) := dX8_item_r90.2.2.2.2.2.2.2.2.2.2.1
theorem dX8_item_113 : decode cX8_item 113 = .ok (.aload_n 0, 1) := dX8_item_r90.2.2.2.2.2.2.2.2.2.2.2.1
theorem dX8_item_114 : decode cX8_item 114 = .ok (.getfield 162, 3) := dX8_item_r90.2.2.2.2.2.2.2.2.2.2.2.2.1
theorem dX8_item_117 : decode cX8_item 117 = .ok (.iadd, 1) := dX8_item_r90.2.2.2.2.2.2.2.2.2.2.2.2.2.1
theorem dX8_item_118 : decode cX8_item 118 = .ok (.laload, 1) := dX8_item_r90.2.2.2.2.2.2.2.2.2.2.2.2.2.2.1
theorem dX8_item_119 : decode cX8_item 119 = .ok (.l2i, 1) := dX8_item_r90.2.2.2.2.2.2.2.2.2.2.2.2.2.2.2.1
theorem dX8_item_r120 : zdcP cX8_item 120 [(.bipush 32, 2), (.if_icmp .eq 12, 3), (.aload_n 0, 1), (.aload_n 0, 1), (.getfield 162, 3), (.invokevirtual 177, 3), (.ireturn, 1), (.aload_n 0, 1), (.dup, 1), (.getfield 162, 3), (.iconst 1, 1), (.iadd, 1), (.putfield 162, 3), (.aload_n 0, 1), (.getfield 162, 3), (.istore_n 3, 1)] := zdcA_ok (by decide +kernel)
theorem dX8_item_120 : decode cX8_item 120 = .ok (.bipush 32, 2) := dX8_item_r120.1
theorem dX8_item_122 : decode cX8_item 122 = .ok (.if_icmp .eq 12, 3) := dX8_item_r120.2.1
theorem dX8_item_125 : decode cX8_item 125 = .ok (.aload_n 0, 1) := dX8_item_r120.2.2.1
theorem dX8_item_126 : decode cX8_item 126 = .ok (.aload_n 0, 1) := dX8_item_r120.2.2.2.1
theorem dX8_item_127 : decode cX8_item 127 = .ok (.getfield 162, 3) := dX8_item_r120.2.2.2.2.1
theorem dX8_item_130 : decode cX8_item 130 = .ok (.invokevirtual 177, 3) := dX8_item_r120.2.2.2.2.2.1
theorem dX8_item_133 : decode cX8_item 133 = .ok (.ireturn, 1) := dX8_item_r120.2.2.2.2.2.2.1
theorem dX8_item_134 : decode cX8_item 134 = .ok (.aload_n 0, 1) := dX8_item_r120.2.2.2.2.2.2.2.1
theorem dX8_item_135 : decode cX8_item 135 = .ok (.dup, 1) := dX8_item_r120.2.2.2.2.2.2.2.2.1
theorem dX8_item_136 : decode cX8_item 136 = .ok (.getfield 162, 3) := dX8_item_r120.2.2.2.2.2.2.2.2.2.1
theorem dX8_item_139 : decode cX8_item 139 = .ok (.iconst 1, 1) := dX8_item_r120.2.2.2.2.2.2.2.2.2.2.1
theorem dX8_item_140 : decode cX8_item 140 = .ok (.iadd, 1) := dX8_item_r120.2.2.2.2.2.2.2.2.2.2.2.1
theorem dX8_item_141 : decode cX8_item 141 = .ok (.putfield 162, 3) := dX8_item_r120.2.2.2.2.2.2.2.2.2.2.2.2.1
theorem dX8_item_144 : decode cX8_item 144 = .ok (.aload_n 0, 1) := dX8_item_r120.2.2.2.2.2.2.2.2.2.2.2.2.2.1
theorem dX8_item_145 : decode cX8_item 145 = .ok (.getfield 162, 3) := dX8_item_r120.2.2.2.2.2.2.2.2.2.2.2.2.2.2.1
theorem dX8_item_148 : decode cX8_item 148 = .ok (.istore_n 3, 1) := dX8_item_r120.2.2.2.2.2.2.2.2.2.2.2.2.2.2.2.1
theorem dX8_item_r149 : zdcP cX8_item 149 [(.aload_n 0, 1), (.invokevirtual 190, 3), (.ifCond .ne 5, 3), (.iconst 0, 1), (.ireturn, 1), (.aload_n 0, 1), (.iload_n 1, 1), (.iload_n 2, 1), (.invokevirtual 193, 3), (.ifCond .ne 9, 3), (.aload_n 0, 1), (.iload_n 3, 1), (.invokevirtual 177, 3), (.ireturn, 1), (.aload_n 0, 1), (.getfield 81, 3)] := zdcA_ok (by decide +kernel)
theorem dX8_item_149 : decode cX8_item 149 = .ok (.aload_n 0, 1) := dX8_item_r149.1
theorem dX8_item_150 : decode cX8_item 150 = .ok (.invokevirtual 190, 3) := dX8_item_r149.2.1
theorem dX8_item_153 : decode cX8_item 153 = .ok (.ifCond .ne 5, 3) := dX8_item_r149.2.2.1
theorem dX8_item_156 : decode cX8_item 156 = .ok (.iconst 0, 1) := dX8_item_r149.2.2.2.1
theorem dX8_item_157 : decode cX8_item 157 = .ok (.ireturn, 1) := dX8_item_r149.2.2.2.2.1
theorem dX8_item_158 : decode cX8_item 158 = .ok (.aload_n 0, 1) := dX8_item_r149.2.2.2.2.2.1
theorem dX8_item_159 : decode cX8_item 159 = .ok (.iload_n 1, 1) := dX8_item_r149.2.2.2.2.2.2.1
theorem dX8_item_160 : decode cX8_item 160 = .ok (.iload_n 2, 1) := dX8_item_r149.2.2.2.2.2.2.2.1
theorem dX8_item_161 : decode cX8_item 161 = .ok (.invokevirtual 193, 3) := dX8_item_r149.2.2.2.2.2.2.2.2.1
theorem dX8_item_164 : decode cX8_item 164 = .ok (.ifCond .ne 9, 3) := dX8_item_r149.2.2.2.2.2.2.2.2.2.1
theorem dX8_item_167 : decode cX8_item 167 = .ok (.aload_n 0, 1) := dX8_item_r149.2.2.2.2.2.2.2.2.2.2.1
theorem dX8_item_168 : decode cX8_item 168 = .ok (.iload_n 3, 1) := dX8_item_r149.2.2.2.2.2.2.2.2.2.2.2.1
theorem dX8_item_169 : decode cX8_item 169 = .ok (.invokevirtual 177, 3) := dX8_item_r149.2.2.2.2.2.2.2.2.2.2.2.2.1
theorem dX8_item_172 : decode cX8_item 172 = .ok (.ireturn, 1) := dX8_item_r149.2.2.2.2.2.2.2.2.2.2.2.2.2.1
theorem dX8_item_173 : decode cX8_item 173 = .ok (.aload_n 0, 1) := dX8_item_r149.2.2.2.2.2.2.2.2.2.2.2.2.2.2.1
theorem dX8_item_174 : decode cX8_item 174 = .ok (.getfield 81, 3) := dX8_item_r149.2.2.2.2.2.2.2.2.2.2.2.2.2.2.2.1
theorem dX8_item_r177 : zdcP cX8_item 177 [(.iload_n 2, 1), (.aload_n 0, 1), (.getfield 171, 3), (.iastore, 1), (.iinc 2 1, 3), (.goto (-106), 3), (.iload_n 1, 1)] := zdcA_ok (by decide +kernel)
theorem dX8_item_177 : decode cX8_item 177 = .ok (.iload_n 2, 1) := dX8_item_r177.1
theorem dX8_item_178 : decode cX8_item 178 = .ok (.aload_n 0, 1) := dX8_item_r177.2.1
theorem dX8_item_179 : decode cX8_item 179 = .ok (.getfield 171, 3) := dX8_item_r177.2.2.1
theorem dX8_item_182 : decode cX8_item 182 = .ok (.iastore, 1) := dX8_item_r177.2.2.2.1
theorem dX8_item_183 : decode cX8_item 183 = .ok (.iinc 2 1, 3) := dX8_item_r177.2.2.2.2.1
theorem dX8_item_186 : decode cX8_item 186 = .ok (.goto (-106), 3) := dX8_item_r177.2.2.2.2.2.1
theorem dX8_item_189 : decode cX8_item 189 = .ok (.iload_n 1, 1) := dX8_item_r177.2.2.2.2.2.2.1
theorem dX8_item_190 : decode cX8_item 190 = .ok (.tableswitch 174 0 11 #[62, 77, 93, 108, 128, 148, 174, 174, 174, 174, 174, 161], 62) := by decide +kernel
theorem dX8_item_r252 : zdcP cX8_item 252 [(.aload_n 0, 1), (.aload_n 0, 1), (.getfield 81, 3), (.iconst 0, 1), (.iaload, 1), (.iconst 0, 1), (.invokevirtual 133, 3), (.pop, 1), (.goto 115, 3), (.aload_n 0, 1), (.aload_n 0, 1), (.getfield 81, 3), (.iconst 0, 1), (.iaload, 1), (.ineg, 1), (.iconst 0, 1)] := zdcA_ok (by decide +kernel)
theorem dX8_item_252 : decode cX8_item 252 = .ok (.aload_n 0, 1) := dX8_item_r252.1
theorem dX8_item_253 : decode cX8_item 253 = .ok (.aload_n 0, 1) := dX8_item_r252.2.1
theorem dX8_item_254 : decode cX8_item 254 = .ok (.getfield 81, 3) := dX8_item_r252.2.2.1
theorem dX8_item_257 : decode cX8_item 257 = .ok (.iconst 0, 1) := dX8_item_r252.2.2.2.1
theorem dX8_item_258 : decode cX8_item 258 = .ok (.iaload, 1) := dX8_item_r252.2.2.2.2.1
theorem dX8_item_259 : decode cX8_item 259 = .ok (.iconst 0, 1) := dX8_item_r252.2.2.2.2.2.1
theorem dX8_item_260 : decode cX8_item 260 = .ok (.invokevirtual 133, 3) := dX8_item_r252.2.2.2.2.2.2.1
theorem dX8_item_263 : decode cX8_item 263 = .ok (.pop, 1) := dX8_item_r252.2.2.2.2.2.2.2.1
theorem dX8_item_264 : decode cX8_item 264 = .ok (.goto 115, 3) := dX8_item_r252.2.2.2.2.2.2.2.2.1
theorem dX8_item_267 : decode cX8_item 267 = .ok (.aload_n 0, 1) := dX8_item_r252.2.2.2.2.2.2.2.2.2.1
theorem dX8_item_268 : decode cX8_item 268 = .ok (.aload_n 0, 1) := dX8_item_r252.2.2.2.2.2.2.2.2.2.2.1
theorem dX8_item_269 : decode cX8_item 269 = .ok (.getfield 81, 3) := dX8_item_r252.2.2.2.2.2.2.2.2.2.2.2.1
theorem dX8_item_272 : decode cX8_item 272 = .ok (.iconst 0, 1) := dX8_item_r252.2.2.2.2.2.2.2.2.2.2.2.2.1
theorem dX8_item_273 : decode cX8_item 273 = .ok (.iaload, 1) := dX8_item_r252.2.2.2.2.2.2.2.2.2.2.2.2.2.1
theorem dX8_item_274 : decode cX8_item 274 = .ok (.ineg, 1) := dX8_item_r252.2.2.2.2.2.2.2.2.2.2.2.2.2.2.1
theorem dX8_item_275 : decode cX8_item 275 = .ok (.iconst 0, 1) := dX8_item_r252.2.2.2.2.2.2.2.2.2.2.2.2.2.2.2.1
theorem dX8_item_r276 : zdcP cX8_item 276 [(.invokevirtual 133, 3), (.pop, 1), (.goto 99, 3), (.aload_n 0, 1), (.getfield 44, 3), (.aload_n 0, 1), (.getfield 108, 3), (.iconst 1, 1), (.isub, 1), (.iconst 1, 1), (.iastore, 1), (.goto 84, 3), (.aload_n 0, 1), (.aload_n 0, 1), (.getfield 81, 3), (.iconst 0, 1)] := zdcA_ok (by decide +kernel)
theorem dX8_item_276 : decode cX8_item 276 = .ok (.invokevirtual 133, 3) := dX8_item_r276.1
theorem dX8_item_279 : decode cX8_item 279 = .ok (.pop, 1) := dX8_item_r276.2.1
theorem dX8_item_280 : decode cX8_item 280 = .ok (.goto 99, 3) := dX8_item_r276.2.2.1
theorem dX8_item_283 : decode cX8_item 283 = .ok (.aload_n 0, 1) := dX8_item_r276.2.2.2.1
theorem dX8_item_284 : decode cX8_item 284 = .ok (.getfield 44, 3) := dX8_item_r276.2.2.2.2.1
theorem dX8_item_287 : decode cX8_item 287 = .ok (.aload_n 0, 1) := dX8_item_r276.2.2.2.2.2.1
theorem dX8_item_288 : decode cX8_item 288 = .ok (.getfield 108, 3) := dX8_item_r276.2.2.2.2.2.2.1
theorem dX8_item_291 : decode cX8_item 291 = .ok (.iconst 1, 1) := dX8_item_r276.2.2.2.2.2.2.2.1
theorem dX8_item_292 : decode cX8_item 292 = .ok (.isub, 1) := dX8_item_r276.2.2.2.2.2.2.2.2.1
theorem dX8_item_293 : decode cX8_item 293 = .ok (.iconst 1, 1) := dX8_item_r276.2.2.2.2.2.2.2.2.2.1
theorem dX8_item_294 : decode cX8_item 294 = .ok (.iastore, 1) := dX8_item_r276.2.2.2.2.2.2.2.2.2.2.1
theorem dX8_item_295 : decode cX8_item 295 = .ok (.goto 84, 3) := dX8_item_r276.2.2.2.2.2.2.2.2.2.2.2.1
theorem dX8_item_298 : decode cX8_item 298 = .ok (.aload_n 0, 1) := dX8_item_r276.2.2.2.2.2.2.2.2.2.2.2.2.1
theorem dX8_item_299 : decode cX8_item 299 = .ok (.aload_n 0, 1) := dX8_item_r276.2.2.2.2.2.2.2.2.2.2.2.2.2.1
theorem dX8_item_300 : decode cX8_item 300 = .ok (.getfield 81, 3) := dX8_item_r276.2.2.2.2.2.2.2.2.2.2.2.2.2.2.1
theorem dX8_item_303 : decode cX8_item 303 = .ok (.iconst 0, 1) := dX8_item_r276.2.2.2.2.2.2.2.2.2.2.2.2.2.2.2.1
theorem dX8_item_r304 : zdcP cX8_item 304 [(.iaload, 1), (.aload_n 0, 1), (.getfield 81, 3), (.iconst 1, 1), (.iaload, 1), (.invokevirtual 136, 3), (.pop, 1), (.goto 64, 3), (.aload_n 0, 1), (.getfield 53, 3), (.aload_n 0, 1), (.getfield 81, 3), (.iconst 0, 1), (.iaload, 1), (.aload_n 0, 1), (.getfield 81, 3)] := zdcA_ok (by decide +kernel)
theorem dX8_item_304 : decode cX8_item 304 = .ok (.iaload, 1) := dX8_item_r304.1
theorem dX8_item_305 : decode cX8_item 305 = .ok (.aload_n 0, 1) := dX8_item_r304.2.1
theorem dX8_item_306 : decode cX8_item 306 = .ok (.getfield 81, 3) := dX8_item_r304.2.2.1
theorem dX8_item_309 : decode cX8_item 309 = .ok (.iconst 1, 1) := dX8_item_r304.2.2.2.1
theorem dX8_item_310 : decode cX8_item 310 = .ok (.iaload, 1) := dX8_item_r304.2.2.2.2.1
theorem dX8_item_311 : decode cX8_item 311 = .ok (.invokevirtual 136, 3) := dX8_item_r304.2.2.2.2.2.1
theorem dX8_item_314 : decode cX8_item 314 = .ok (.pop, 1) := dX8_item_r304.2.2.2.2.2.2.1
theorem dX8_item_315 : decode cX8_item 315 = .ok (.goto 64, 3) := dX8_item_r304.2.2.2.2.2.2.2.1
theorem dX8_item_318 : decode cX8_item 318 = .ok (.aload_n 0, 1) := dX8_item_r304.2.2.2.2.2.2.2.2.1
theorem dX8_item_319 : decode cX8_item 319 = .ok (.getfield 53, 3) := dX8_item_r304.2.2.2.2.2.2.2.2.2.1
theorem dX8_item_322 : decode cX8_item 322 = .ok (.aload_n 0, 1) := dX8_item_r304.2.2.2.2.2.2.2.2.2.2.1
theorem dX8_item_323 : decode cX8_item 323 = .ok (.getfield 81, 3) := dX8_item_r304.2.2.2.2.2.2.2.2.2.2.2.1
theorem dX8_item_326 : decode cX8_item 326 = .ok (.iconst 0, 1) := dX8_item_r304.2.2.2.2.2.2.2.2.2.2.2.2.1
theorem dX8_item_327 : decode cX8_item 327 = .ok (.iaload, 1) := dX8_item_r304.2.2.2.2.2.2.2.2.2.2.2.2.2.1
theorem dX8_item_328 : decode cX8_item 328 = .ok (.aload_n 0, 1) := dX8_item_r304.2.2.2.2.2.2.2.2.2.2.2.2.2.2.1
theorem dX8_item_329 : decode cX8_item 329 = .ok (.getfield 81, 3) := dX8_item_r304.2.2.2.2.2.2.2.2.2.2.2.2.2.2.2.1
theorem dX8_item_r332 : zdcP cX8_item 332 [(.iconst 1, 1), (.iaload, 1), (.iastore, 1), (.goto 44, 3), (.aload_n 0, 1), (.aload_n 0, 1), (.getfield 81, 3), (.iconst 0, 1), (.iaload, 1), (.putfield 9, 3), (.goto 31, 3), (.aload_n 0, 1), (.aload_n 0, 1), (.getfield 81, 3), (.iconst 0, 1), (.iaload, 1)] := zdcA_ok (by decide +kernel)
theorem dX8_item_332 : decode cX8_item 332 = .ok (.iconst 1, 1) := dX8_item_r332.1
theorem dX8_item_333 : decode cX8_item 333 = .ok (.iaload, 1) := dX8_item_r332.2.1
theorem dX8_item_334 : decode cX8_item 334 = .ok (.iastore, 1) := dX8_item_r332.2.2.1
theorem dX8_item_335 : decode cX8_item 335 = .ok (.goto 44, 3) := dX8_item_r332.2.2.2.1
theorem dX8_item_338 : decode cX8_item 338 = .ok (.aload_n 0, 1) := dX8_item_r332.2.2.2.2.1
theorem dX8_item_339 : decode cX8_item 339 = .ok (.aload_n 0, 1) := dX8_item_r332.2.2.2.2.2.1
theorem dX8_item_340 : decode cX8_item 340 = .ok (.getfield 81, 3) := dX8_item_r332.2.2.2.2.2.2.1
theorem dX8_item_343 : decode cX8_item 343 = .ok (.iconst 0, 1) := dX8_item_r332.2.2.2.2.2.2.2.1
theorem dX8_item_344 : decode cX8_item 344 = .ok (.iaload, 1) := dX8_item_r332.2.2.2.2.2.2.2.2.1
theorem dX8_item_345 : decode cX8_item 345 = .ok (.putfield 9, 3) := dX8_item_r332.2.2.2.2.2.2.2.2.2.1
theorem dX8_item_348 : decode cX8_item 348 = .ok (.goto 31, 3) := dX8_item_r332.2.2.2.2.2.2.2.2.2.2.1
theorem dX8_item_351 : decode cX8_item 351 = .ok (.aload_n 0, 1) := dX8_item_r332.2.2.2.2.2.2.2.2.2.2.2.1
theorem dX8_item_352 : decode cX8_item 352 = .ok (.aload_n 0, 1) := dX8_item_r332.2.2.2.2.2.2.2.2.2.2.2.2.1
theorem dX8_item_353 : decode cX8_item 353 = .ok (.getfield 81, 3) := dX8_item_r332.2.2.2.2.2.2.2.2.2.2.2.2.2.1
theorem dX8_item_356 : decode cX8_item 356 = .ok (.iconst 0, 1) := dX8_item_r332.2.2.2.2.2.2.2.2.2.2.2.2.2.2.1
theorem dX8_item_357 : decode cX8_item 357 = .ok (.iaload, 1) := dX8_item_r332.2.2.2.2.2.2.2.2.2.2.2.2.2.2.2.1
theorem dX8_item_r358 : zdcP cX8_item 358 [(.invokevirtual 196, 3), (.goto 18, 3), (.aload_n 0, 1), (.iload_n 1, 1), (.bipush 6, 2), (.isub, 1), (.aload_n 0, 1), (.getfield 81, 3), (.iconst 0, 1), (.iaload, 1), (.invokevirtual 156, 3), (.pop, 1), (.iconst 1, 1), (.ireturn, 1)] := zdcA_ok (by decide +kernel)
theorem dX8_item_358 : decode cX8_item 358 = .ok (.invokevirtual 196, 3) := dX8_item_r358.1
theorem dX8_item_361 : decode cX8_item 361 = .ok (.goto 18, 3) := dX8_item_r358.2.1
theorem dX8_item_364 : decode cX8_item 364 = .ok (.aload_n 0, 1) := dX8_item_r358.2.2.1
theorem dX8_item_365 : decode cX8_item 365 = .ok (.iload_n 1, 1) := dX8_item_r358.2.2.2.1
theorem dX8_item_366 : decode cX8_item 366 = .ok (.bipush 6, 2) := dX8_item_r358.2.2.2.2.1
theorem dX8_item_368 : decode cX8_item 368 = .ok (.isub, 1) := dX8_item_r358.2.2.2.2.2.1
theorem dX8_item_369 : decode cX8_item 369 = .ok (.aload_n 0, 1) := dX8_item_r358.2.2.2.2.2.2.1
theorem dX8_item_370 : decode cX8_item 370 = .ok (.getfield 81, 3) := dX8_item_r358.2.2.2.2.2.2.2.1
theorem dX8_item_373 : decode cX8_item 373 = .ok (.iconst 0, 1) := dX8_item_r358.2.2.2.2.2.2.2.2.1
theorem dX8_item_374 : decode cX8_item 374 = .ok (.iaload, 1) := dX8_item_r358.2.2.2.2.2.2.2.2.2.1
theorem dX8_item_375 : decode cX8_item 375 = .ok (.invokevirtual 156, 3) := dX8_item_r358.2.2.2.2.2.2.2.2.2.2.1
theorem dX8_item_378 : decode cX8_item 378 = .ok (.pop, 1) := dX8_item_r358.2.2.2.2.2.2.2.2.2.2.2.1
theorem dX8_item_379 : decode cX8_item 379 = .ok (.iconst 1, 1) := dX8_item_r358.2.2.2.2.2.2.2.2.2.2.2.2.1
theorem dX8_item_380 : decode cX8_item 380 = .ok (.ireturn, 1) := dX8_item_r358.2.2.2.2.2.2.2.2.2.2.2.2.2.1
def wq_159_144 (F80 : Int32 → Int32 → zf_Me → Prop) (v1 : Int32) (v2 : Int32) (m : zf_Me) (Q : Bool → zf_Me → Prop) : Prop := wp_157 m (fun b37 m38 => ((b37 = true → wp_158 v1 v2 m38 (fun b39 m40 => ((b39 = true → ((0 ≤ (Int32.toInt v2) ∧ (Int32.toInt v2) < (2 : Int)) ∧ ∀ m41, m41 = zf_u m40 78 (Int32.toInt v2).toNat (m40.1 63 32) → F80 v1 (v2 + 1) m41)) ∧ (b39 = false → wp_153 (m.1 63 30) m40 (fun b43 m44 => Q b43 m44))))) ∧ (b37 = false → Q false m38)))
theorem zq_159_144 {d : Nat} (hd : 4 ≤ d) {F80 : Int32 → Int32 → zf_Me → Prop} {Q : Bool → zf_Me → Prop} (hF80 : ∀ (v1 : Int32) (v2 : Int32) (m : zf_Me), F80 v1 v2 m → zf_W none 0 0 d zt_159 80 [some (.inr (.inr (1, 63))), some (.inl v1), some (.inl v2), none] [] m (zf_B Q)) {v1 : Int32} {v2 : Int32} {m : zf_Me} (h : wq_159_144 F80 v1 v2 m Q) : zf_W none 0 0 d zt_159 144 [some (.inr (.inr (1, 63))), some (.inl v1), some (.inl v2), none] [] m (zf_B Q) := by
  obtain ⟨e, rfl⟩ : ∃ z, d = z + 1 := ⟨d - 1, by omega⟩
  unfold wq_159_144 at h
  refine zf_ld (pc' := 145) (v := .inr (.inr (1, 63))) dX8_item_144 rfl (fun _ _ _ => rfl) rfl rfl rfl ?_
  refine zf_gfi (pc' := 148) dX8_item_145 rfl rfl (by decide) rfl rfl ?_
  refine zf_st (pc' := 149) (L2 := [some (.inr (.inr (1, 63))), some (.inl v1), some (.inl v2), some (.inl (m.1 63 30))]) dX8_item_148 rfl (fun _ _ _ => rfl) rfl rfl rfl rfl rfl rfl ?_
  refine zf_ld (pc' := 150) (v := .inr (.inr (1, 63))) dX8_item_149 rfl (fun _ _ _ => rfl) rfl rfl rfl ?_
  refine zf_iv (k := 157) (pc' := 153) (r := []) dX8_item_150 rfl rfl rfl rfl (by decide) rfl rfl rfl (zr_157 (by omega) h) (zf_kB (fun b37 m38 h => ?_))
  refine zf_ib_ne (tgt := 158) (pc' := 156) dX8_item_153 rfl rfl (fun g => ?_) (fun g => ?_)
  · replace h := h.1 g
    refine zf_ld (pc' := 159) (v := .inr (.inr (1, 63))) dX8_item_158 rfl (fun _ _ _ => rfl) rfl rfl rfl ?_
    refine zf_ld (pc' := 160) (v := .inl v1) dX8_item_159 rfl (fun _ _ _ => rfl) rfl rfl rfl ?_
    refine zf_ld (pc' := 161) (v := .inl v2) dX8_item_160 rfl (fun _ _ _ => rfl) rfl rfl rfl ?_
    refine zf_iv (k := 158) (pc' := 164) (r := []) dX8_item_161 rfl rfl rfl rfl (by decide) rfl rfl rfl (zr_158 (by omega) h) (zf_kB (fun b39 m40 h => ?_))
    refine zf_ib_ne (tgt := 173) (pc' := 167) dX8_item_164 rfl rfl (fun g => ?_) (fun g => ?_)
    · replace h := h.1 g
      refine zf_ld (pc' := 174) (v := .inr (.inr (1, 63))) dX8_item_173 rfl (fun _ _ _ => rfl) rfl rfl rfl ?_
      refine zf_gfr (pc' := 177) (b := 78) dX8_item_174 rfl rfl (by decide) rfl rfl ?_
      refine zf_ld (pc' := 178) (v := .inl v2) dX8_item_177 rfl (fun _ _ _ => rfl) rfl rfl rfl ?_
      refine zf_ld (pc' := 179) (v := .inr (.inr (1, 63))) dX8_item_178 rfl (fun _ _ _ => rfl) rfl rfl rfl ?_
      refine zf_gfi (pc' := 182) dX8_item_179 rfl rfl (by decide) rfl rfl ?_
      refine zf_ias (pc' := 183) dX8_item_182 rfl (⟨by decide, rfl⟩ : zf_arr 78 2).1 (⟨by decide, rfl⟩ : zf_arr 78 2).2 h.1 rfl (fun m41 e42 => ?_)
      replace h := h.2 m41 e42
      refine zf_ii (y := (v2 + 1)) (L2 := [some (.inr (.inr (1, 63))), some (.inl v1), some (.inl (v2 + 1)), some (.inl (m.1 63 30))]) (pc' := 186) dX8_item_183 rfl rfl rfl rfl rfl ?_
      refine zf_goto (tgt := 80) dX8_item_186 rfl ?_
      exact zf_lo (hF80 _ _ _ h) ⟨rfl, rfl, rfl, trivial⟩
    · replace h := h.2 g
      refine zf_ld (pc' := 168) (v := .inr (.inr (1, 63))) dX8_item_167 rfl (fun _ _ _ => rfl) rfl rfl rfl ?_
      refine zf_ld (pc' := 169) (v := .inl (m.1 63 30)) dX8_item_168 rfl (fun _ _ _ => rfl) rfl rfl rfl ?_
      refine zf_iv (k := 153) (pc' := 172) (r := []) dX8_item_169 rfl rfl rfl rfl (by decide) rfl rfl rfl (zr_153 (by omega) h) (zf_kB (fun b43 m44 h => ?_))
      exact zf_rb (b := b43) dX8_item_172 rfl h
  · replace h := h.2 g
    refine zf_ic (v := 0) (pc' := 157) dX8_item_156 rfl rfl ?_
    exact zf_rb (b := false) dX8_item_157 rfl h
def wq_159_80 (Q : Bool → zf_Me → Prop) : Nat → Int32 → Int32 → zf_Me → Prop
  | 0, _, _, _ => False
  | n + 1, v1, v2, m => ((0 ≤ (Int32.toInt v1) ∧ (Int32.toInt v1) < (12 : Int)) ∧ ((v2.toInt ≥ ((m.1 77 (Int32.toInt v1).toNat)).toInt → (((v1.toInt < 0 ∨ v1.toInt > 11) → wp_149 (v1 - 6) (m.1 78 0) m (fun x11 m12 => Q true m12)) ∧ (v1.toInt = 0 → wp_140 (m.1 78 0) 0 m (fun x13 m14 => Q true m14)) ∧ (v1.toInt = 1 → wp_140 (-(m.1 78 0)) 0 m (fun x15 m16 => Q true m16)) ∧ (v1.toInt = 2 → ((0 ≤ (Int32.toInt ((m.1 63 0) - 1)) ∧ (Int32.toInt ((m.1 63 0) - 1)) < (24 : Int)) ∧ ∀ m17, m17 = zf_u m 66 (Int32.toInt ((m.1 63 0) - 1)).toNat 1 → Q true m17)) ∧ (v1.toInt = 3 → wp_141 (m.1 78 0) (m.1 78 1) m (fun x19 m20 => Q true m20)) ∧ (v1.toInt = 4 → ((0 ≤ (Int32.toInt (m.1 78 0)) ∧ (Int32.toInt (m.1 78 0)) < (6 : Int)) ∧ ∀ m21, m21 = zf_u m 69 (Int32.toInt (m.1 78 0)).toNat (m.1 78 1) → Q true m21)) ∧ (v1.toInt = 5 → (∀ m23, m23 = zf_u m 63 2 (m.1 78 0) → Q true m23)) ∧ (v1.toInt = 6 → wp_149 (v1 - 6) (m.1 78 0) m (fun x25 m26 => Q true m26)) ∧ (v1.toInt = 7 → wp_149 (v1 - 6) (m.1 78 0) m (fun x27 m28 => Q true m28)) ∧ (v1.toInt = 8 → wp_149 (v1 - 6) (m.1 78 0) m (fun x29 m30 => Q true m30)) ∧ (v1.toInt = 9 → wp_149 (v1 - 6) (m.1 78 0) m (fun x31 m32 => Q true m32)) ∧ (v1.toInt = 10 → wp_149 (v1 - 6) (m.1 78 0) m (fun x33 m34 => Q true m34)) ∧ (v1.toInt = 11 → wp_169 (m.1 78 0) m (fun m36 => Q true m36)))) ∧ (v2.toInt < ((m.1 77 (Int32.toInt v1).toNat)).toInt → ((v2.toInt ≤ 0 → wq_159_144 (wq_159_80 Q n) v1 v2 m Q) ∧ (v2.toInt > 0 → ((((m.1 63 30)).toInt ≥ ((m.1 63 31)).toInt → wp_153 (m.1 63 30) m (fun b45 m46 => Q b45 m46)) ∧ (((m.1 63 30)).toInt < ((m.1 63 31)).toInt → ((0 ≤ (Int32.toInt ((m.1 63 29) + (m.1 63 30))) ∧ (Int32.toInt ((m.1 63 29) + (m.1 63 30))) < (1280 : Int)) ∧ ((((Int64.toInt32 (m.2 74 (Int32.toInt ((m.1 63 29) + (m.1 63 30))).toNat))).toInt = 32 → (∀ m47, m47 = zf_u m 63 30 ((m.1 63 30) + 1) → wq_159_144 (wq_159_80 Q n) v1 v2 m47 Q)) ∧ (¬ ((Int64.toInt32 (m.2 74 (Int32.toInt ((m.1 63 29) + (m.1 63 30))).toNat))).toInt = 32 → wp_153 (m.1 63 30) m (fun b49 m50 => Q b49 m50)))))))))))
theorem zq_159_80 {d : Nat} (hd : 4 ≤ d) {Q : Bool → zf_Me → Prop} : ∀ (n : Nat) (v1 : Int32) (v2 : Int32) (m : zf_Me), wq_159_80 Q n v1 v2 m → zf_W none 0 0 d zt_159 80 [some (.inr (.inr (1, 63))), some (.inl v1), some (.inl v2), none] [] m (zf_B Q) := by
  obtain ⟨e, rfl⟩ : ∃ z, d = z + 1 := ⟨d - 1, by omega⟩
  intro n
  induction n with
  | zero =>
    intro v1 v2 m h
    exact h.elim
  | succ n ih =>
    intro v1 v2 m h
    unfold wq_159_80 at h
    refine zf_ld (pc' := 81) (v := .inl v2) dX8_item_80 rfl (fun _ _ _ => rfl) rfl rfl rfl ?_
    refine zf_ld (pc' := 82) (v := .inr (.inr (1, 63))) dX8_item_81 rfl (fun _ _ _ => rfl) rfl rfl rfl ?_
    refine zf_gfr (pc' := 85) (b := 77) dX8_item_82 rfl rfl (by decide) rfl rfl ?_
    refine zf_ld (pc' := 86) (v := .inl v1) dX8_item_85 rfl (fun _ _ _ => rfl) rfl rfl rfl ?_
    refine zf_ial (pc' := 87) dX8_item_86 rfl (⟨by decide, rfl⟩ : zf_arr 77 12).1 (⟨by decide, rfl⟩ : zf_arr 77 12).2 h.1 rfl ?_
    replace h := h.2
    refine zf_icmp_ge (tgt := 189) (pc' := 90) dX8_item_87 rfl rfl (fun g => ?_) (fun g => ?_)
    · replace h := h.1 g
      refine zf_ld (pc' := 190) (v := .inl v1) dX8_item_189 rfl (fun _ _ _ => rfl) rfl rfl rfl ?_
      refine zf_tsc (tgd := 364) dX8_item_190 rfl [252, 267, 283, 298, 318, 338, 364, 364, 364, 364, 364, 351] (by decide) (by decide) (fun g => ?_) (zl_cons (fun g => ?_) (zl_cons (fun g => ?_) (zl_cons (fun g => ?_) (zl_cons (fun g => ?_) (zl_cons (fun g => ?_) (zl_cons (fun g => ?_) (zl_cons (fun g => ?_) (zl_cons (fun g => ?_) (zl_cons (fun g => ?_) (zl_cons (fun g => ?_) (zl_cons (fun g => ?_) (zl_cons (fun g => ?_) (zl_nil)))))))))))))
      · replace h := h.1 (by omega)
        refine zf_ld (pc' := 365) (v := .inr (.inr (1, 63))) dX8_item_364 rfl (fun _ _ _ => rfl) rfl rfl rfl ?_
        refine zf_ld (pc' := 366) (v := .inl v1) dX8_item_365 rfl (fun _ _ _ => rfl) rfl rfl rfl ?_
        refine zf_bi (v := 6) (pc' := 368) dX8_item_366 rfl rfl ?_
        refine zf_in (pc' := 369) (S' := [.inl (v1 - 6), .inr (.inr (1, 63))]) dX8_item_368 rfl (fun _ _ _ => rfl) ?_
        refine zf_ld (pc' := 370) (v := .inr (.inr (1, 63))) dX8_item_369 rfl (fun _ _ _ => rfl) rfl rfl rfl ?_
        refine zf_gfr (pc' := 373) (b := 78) dX8_item_370 rfl rfl (by decide) rfl rfl ?_
        refine zf_ic (v := 0) (pc' := 374) dX8_item_373 rfl rfl ?_
        refine zf_ial (j := 0) (pc' := 375) dX8_item_374 rfl (⟨by decide, rfl⟩ : zf_arr 78 2).1 (⟨by decide, rfl⟩ : zf_arr 78 2).2 (by decide) rfl ?_
        refine zf_iv (k := 149) (pc' := 378) (r := []) dX8_item_375 rfl rfl rfl rfl (by decide) rfl rfl rfl (zr_149 (by omega) h) (zf_kI (fun x11 m12 h => ?_))
        refine zf_in (pc' := 379) (S' := []) dX8_item_378 rfl (fun _ _ _ => rfl) ?_
        refine zf_ic (v := 1) (pc' := 380) dX8_item_379 rfl rfl ?_
        exact zf_rb (b := true) dX8_item_380 rfl h
      · replace h := h.2.1 (by omega)
        refine zf_ld (pc' := 253) (v := .inr (.inr (1, 63))) dX8_item_252 rfl (fun _ _ _ => rfl) rfl rfl rfl ?_
        refine zf_ld (pc' := 254) (v := .inr (.inr (1, 63))) dX8_item_253 rfl (fun _ _ _ => rfl) rfl rfl rfl ?_
        refine zf_gfr (pc' := 257) (b := 78) dX8_item_254 rfl rfl (by decide) rfl rfl ?_
        refine zf_ic (v := 0) (pc' := 258) dX8_item_257 rfl rfl ?_
        refine zf_ial (j := 0) (pc' := 259) dX8_item_258 rfl (⟨by decide, rfl⟩ : zf_arr 78 2).1 (⟨by decide, rfl⟩ : zf_arr 78 2).2 (by decide) rfl ?_
        refine zf_ic (v := 0) (pc' := 260) dX8_item_259 rfl rfl ?_
        refine zf_iv (k := 140) (pc' := 263) (r := []) dX8_item_260 rfl rfl rfl rfl (by decide) rfl rfl rfl (zr_140 (by omega) h) (zf_kI (fun x13 m14 h => ?_))
        refine zf_in (pc' := 264) (S' := []) dX8_item_263 rfl (fun _ _ _ => rfl) ?_
        refine zf_goto (tgt := 379) dX8_item_264 rfl ?_
        refine zf_ic (v := 1) (pc' := 380) dX8_item_379 rfl rfl ?_
        exact zf_rb (b := true) dX8_item_380 rfl h
      · replace h := h.2.2.1 (by omega)
        refine zf_ld (pc' := 268) (v := .inr (.inr (1, 63))) dX8_item_267 rfl (fun _ _ _ => rfl) rfl rfl rfl ?_
        refine zf_ld (pc' := 269) (v := .inr (.inr (1, 63))) dX8_item_268 rfl (fun _ _ _ => rfl) rfl rfl rfl ?_
        refine zf_gfr (pc' := 272) (b := 78) dX8_item_269 rfl rfl (by decide) rfl rfl ?_
        refine zf_ic (v := 0) (pc' := 273) dX8_item_272 rfl rfl ?_
        refine zf_ial (j := 0) (pc' := 274) dX8_item_273 rfl (⟨by decide, rfl⟩ : zf_arr 78 2).1 (⟨by decide, rfl⟩ : zf_arr 78 2).2 (by decide) rfl ?_
        refine zf_in (pc' := 275) (S' := [.inl (-(m.1 78 0)), .inr (.inr (1, 63))]) dX8_item_274 rfl (fun _ _ _ => rfl) ?_
        refine zf_ic (v := 0) (pc' := 276) dX8_item_275 rfl rfl ?_
        refine zf_iv (k := 140) (pc' := 279) (r := []) dX8_item_276 rfl rfl rfl rfl (by decide) rfl rfl rfl (zr_140 (by omega) h) (zf_kI (fun x15 m16 h => ?_))
        refine zf_in (pc' := 280) (S' := []) dX8_item_279 rfl (fun _ _ _ => rfl) ?_
        refine zf_goto (tgt := 379) dX8_item_280 rfl ?_
        refine zf_ic (v := 1) (pc' := 380) dX8_item_379 rfl rfl ?_
        exact zf_rb (b := true) dX8_item_380 rfl h
      · replace h := h.2.2.2.1 (by omega)
        refine zf_ld (pc' := 284) (v := .inr (.inr (1, 63))) dX8_item_283 rfl (fun _ _ _ => rfl) rfl rfl rfl ?_
        refine zf_gfr (pc' := 287) (b := 66) dX8_item_284 rfl rfl (by decide) rfl rfl ?_
        refine zf_ld (pc' := 288) (v := .inr (.inr (1, 63))) dX8_item_287 rfl (fun _ _ _ => rfl) rfl rfl rfl ?_
        refine zf_gfi (pc' := 291) dX8_item_288 rfl rfl (by decide) rfl rfl ?_
        refine zf_ic (v := 1) (pc' := 292) dX8_item_291 rfl rfl ?_
        refine zf_in (pc' := 293) (S' := [.inl ((m.1 63 0) - 1), .inr (.inr (1, 66))]) dX8_item_292 rfl (fun _ _ _ => rfl) ?_
        refine zf_ic (v := 1) (pc' := 294) dX8_item_293 rfl rfl ?_
        refine zf_ias (pc' := 295) dX8_item_294 rfl (⟨by decide, rfl⟩ : zf_arr 66 24).1 (⟨by decide, rfl⟩ : zf_arr 66 24).2 h.1 rfl (fun m17 e18 => ?_)
        replace h := h.2 m17 e18
        refine zf_goto (tgt := 379) dX8_item_295 rfl ?_
        refine zf_ic (v := 1) (pc' := 380) dX8_item_379 rfl rfl ?_
        exact zf_rb (b := true) dX8_item_380 rfl h
      · replace h := h.2.2.2.2.1 (by omega)
        refine zf_ld (pc' := 299) (v := .inr (.inr (1, 63))) dX8_item_298 rfl (fun _ _ _ => rfl) rfl rfl rfl ?_
        refine zf_ld (pc' := 300) (v := .inr (.inr (1, 63))) dX8_item_299 rfl (fun _ _ _ => rfl) rfl rfl rfl ?_
        refine zf_gfr (pc' := 303) (b := 78) dX8_item_300 rfl rfl (by decide) rfl rfl ?_
        refine zf_ic (v := 0) (pc' := 304) dX8_item_303 rfl rfl ?_
        refine zf_ial (j := 0) (pc' := 305) dX8_item_304 rfl (⟨by decide, rfl⟩ : zf_arr 78 2).1 (⟨by decide, rfl⟩ : zf_arr 78 2).2 (by decide) rfl ?_
        refine zf_ld (pc' := 306) (v := .inr (.inr (1, 63))) dX8_item_305 rfl (fun _ _ _ => rfl) rfl rfl rfl ?_
        refine zf_gfr (pc' := 309) (b := 78) dX8_item_306 rfl rfl (by decide) rfl rfl ?_
        refine zf_ic (v := 1) (pc' := 310) dX8_item_309 rfl rfl ?_
        refine zf_ial (j := 1) (pc' := 311) dX8_item_310 rfl (⟨by decide, rfl⟩ : zf_arr 78 2).1 (⟨by decide, rfl⟩ : zf_arr 78 2).2 (by decide) rfl ?_
        refine zf_iv (k := 141) (pc' := 314) (r := []) dX8_item_311 rfl rfl rfl rfl (by decide) rfl rfl rfl (zr_141 (by omega) h) (zf_kI (fun x19 m20 h => ?_))
        refine zf_in (pc' := 315) (S' := []) dX8_item_314 rfl (fun _ _ _ => rfl) ?_
        refine zf_goto (tgt := 379) dX8_item_315 rfl ?_
        refine zf_ic (v := 1) (pc' := 380) dX8_item_379 rfl rfl ?_
        exact zf_rb (b := true) dX8_item_380 rfl h
      · replace h := h.2.2.2.2.2.1 (by omega)
        refine zf_ld (pc' := 319) (v := .inr (.inr (1, 63))) dX8_item_318 rfl (fun _ _ _ => rfl) rfl rfl rfl ?_
        refine zf_gfr (pc' := 322) (b := 69) dX8_item_319 rfl rfl (by decide) rfl rfl ?_
        refine zf_ld (pc' := 323) (v := .inr (.inr (1, 63))) dX8_item_322 rfl (fun _ _ _ => rfl) rfl rfl rfl ?_
        refine zf_gfr (pc' := 326) (b := 78) dX8_item_323 rfl rfl (by decide) rfl rfl ?_
        refine zf_ic (v := 0) (pc' := 327) dX8_item_326 rfl rfl ?_
        refine zf_ial (j := 0) (pc' := 328) dX8_item_327 rfl (⟨by decide, rfl⟩ : zf_arr 78 2).1 (⟨by decide, rfl⟩ : zf_arr 78 2).2 (by decide) rfl ?_
        refine zf_ld (pc' := 329) (v := .inr (.inr (1, 63))) dX8_item_328 rfl (fun _ _ _ => rfl) rfl rfl rfl ?_
        refine zf_gfr (pc' := 332) (b := 78) dX8_item_329 rfl rfl (by decide) rfl rfl ?_
        refine zf_ic (v := 1) (pc' := 333) dX8_item_332 rfl rfl ?_
        refine zf_ial (j := 1) (pc' := 334) dX8_item_333 rfl (⟨by decide, rfl⟩ : zf_arr 78 2).1 (⟨by decide, rfl⟩ : zf_arr 78 2).2 (by decide) rfl ?_
        refine zf_ias (pc' := 335) dX8_item_334 rfl (⟨by decide, rfl⟩ : zf_arr 69 6).1 (⟨by decide, rfl⟩ : zf_arr 69 6).2 h.1 rfl (fun m21 e22 => ?_)
        replace h := h.2 m21 e22
        refine zf_goto (tgt := 379) dX8_item_335 rfl ?_
        refine zf_ic (v := 1) (pc' := 380) dX8_item_379 rfl rfl ?_
        exact zf_rb (b := true) dX8_item_380 rfl h
      · replace h := h.2.2.2.2.2.2.1 (by omega)
        refine zf_ld (pc' := 339) (v := .inr (.inr (1, 63))) dX8_item_338 rfl (fun _ _ _ => rfl) rfl rfl rfl ?_
        refine zf_ld (pc' := 340) (v := .inr (.inr (1, 63))) dX8_item_339 rfl (fun _ _ _ => rfl) rfl rfl rfl ?_
        refine zf_gfr (pc' := 343) (b := 78) dX8_item_340 rfl rfl (by decide) rfl rfl ?_
        refine zf_ic (v := 0) (pc' := 344) dX8_item_343 rfl rfl ?_
        refine zf_ial (j := 0) (pc' := 345) dX8_item_344 rfl (⟨by decide, rfl⟩ : zf_arr 78 2).1 (⟨by decide, rfl⟩ : zf_arr 78 2).2 (by decide) rfl ?_
        refine zf_pf (pc' := 348) dX8_item_345 rfl rfl (by decide) rfl rfl rfl (fun m23 e24 => ?_)
        replace h := h m23 e24
        refine zf_goto (tgt := 379) dX8_item_348 rfl ?_
        refine zf_ic (v := 1) (pc' := 380) dX8_item_379 rfl rfl ?_
        exact zf_rb (b := true) dX8_item_380 rfl h
      · replace h := h.2.2.2.2.2.2.2.1 (by omega)
        refine zf_ld (pc' := 365) (v := .inr (.inr (1, 63))) dX8_item_364 rfl (fun _ _ _ => rfl) rfl rfl rfl ?_
        refine zf_ld (pc' := 366) (v := .inl v1) dX8_item_365 rfl (fun _ _ _ => rfl) rfl rfl rfl ?_
        refine zf_bi (v := 6) (pc' := 368) dX8_item_366 rfl rfl ?_
        refine zf_in (pc' := 369) (S' := [.inl (v1 - 6), .inr (.inr (1, 63))]) dX8_item_368 rfl (fun _ _ _ => rfl) ?_
        refine zf_ld (pc' := 370) (v := .inr (.inr (1, 63))) dX8_item_369 rfl (fun _ _ _ => rfl) rfl rfl rfl ?_
        refine zf_gfr (pc' := 373) (b := 78) dX8_item_370 rfl rfl (by decide) rfl rfl ?_
        refine zf_ic (v := 0) (pc' := 374) dX8_item_373 rfl rfl ?_
        refine zf_ial (j := 0) (pc' := 375) dX8_item_374 rfl (⟨by decide, rfl⟩ : zf_arr 78 2).1 (⟨by decide, rfl⟩ : zf_arr 78 2).2 (by decide) rfl ?_
        refine zf_iv (k := 149) (pc' := 378) (r := []) dX8_item_375 rfl rfl rfl rfl (by decide) rfl rfl rfl (zr_149 (by omega) h) (zf_kI (fun x25 m26 h => ?_))
        refine zf_in (pc' := 379) (S' := []) dX8_item_378 rfl (fun _ _ _ => rfl) ?_
        refine zf_ic (v := 1) (pc' := 380) dX8_item_379 rfl rfl ?_
        exact zf_rb (b := true) dX8_item_380 rfl h
      · replace h := h.2.2.2.2.2.2.2.2.1 (by omega)
        refine zf_ld (pc' := 365) (v := .inr (.inr (1, 63))) dX8_item_364 rfl (fun _ _ _ => rfl) rfl rfl rfl ?_
        refine zf_ld (pc' := 366) (v := .inl v1) dX8_item_365 rfl (fun _ _ _ => rfl) rfl rfl rfl ?_
        refine zf_bi (v := 6) (pc' := 368) dX8_item_366 rfl rfl ?_
        refine zf_in (pc' := 369) (S' := [.inl (v1 - 6), .inr (.inr (1, 63))]) dX8_item_368 rfl (fun _ _ _ => rfl) ?_
        refine zf_ld (pc' := 370) (v := .inr (.inr (1, 63))) dX8_item_369 rfl (fun _ _ _ => rfl) rfl rfl rfl ?_
        refine zf_gfr (pc' := 373) (b := 78) dX8_item_370 rfl rfl (by decide) rfl rfl ?_
        refine zf_ic (v := 0) (pc' := 374) dX8_item_373 rfl rfl ?_
        refine zf_ial (j := 0) (pc' := 375) dX8_item_374 rfl (⟨by decide, rfl⟩ : zf_arr 78 2).1 (⟨by decide, rfl⟩ : zf_arr 78 2).2 (by decide) rfl ?_
        refine zf_iv (k := 149) (pc' := 378) (r := []) dX8_item_375 rfl rfl rfl rfl (by decide) rfl rfl rfl (zr_149 (by omega) h) (zf_kI (fun x27 m28 h => ?_))
        refine zf_in (pc' := 379) (S' := []) dX8_item_378 rfl (fun _ _ _ => rfl) ?_
        refine zf_ic (v := 1) (pc' := 380) dX8_item_379 rfl rfl ?_
        exact zf_rb (b := true) dX8_item_380 rfl h
      · replace h := h.2.2.2.2.2.2.2.2.2.1 (by omega)
        refine zf_ld (pc' := 365) (v := .inr (.inr (1, 63))) dX8_item_364 rfl (fun _ _ _ => rfl) rfl rfl rfl ?_
        refine zf_ld (pc' := 366) (v := .inl v1) dX8_item_365 rfl (fun _ _ _ => rfl) rfl rfl rfl ?_
        refine zf_bi (v := 6) (pc' := 368) dX8_item_366 rfl rfl ?_
        refine zf_in (pc' := 369) (S' := [.inl (v1 - 6), .inr (.inr (1, 63))]) dX8_item_368 rfl (fun _ _ _ => rfl) ?_
        refine zf_ld (pc' := 370) (v := .inr (.inr (1, 63))) dX8_item_369 rfl (fun _ _ _ => rfl) rfl rfl rfl ?_
        refine zf_gfr (pc' := 373) (b := 78) dX8_item_370 rfl rfl (by decide) rfl rfl ?_
        refine zf_ic (v := 0) (pc' := 374) dX8_item_373 rfl rfl ?_
        refine zf_ial (j := 0) (pc' := 375) dX8_item_374 rfl (⟨by decide, rfl⟩ : zf_arr 78 2).1 (⟨by decide, rfl⟩ : zf_arr 78 2).2 (by decide) rfl ?_
        refine zf_iv (k := 149) (pc' := 378) (r := []) dX8_item_375 rfl rfl rfl rfl (by decide) rfl rfl rfl (zr_149 (by omega) h) (zf_kI (fun x29 m30 h => ?_))
        refine zf_in (pc' := 379) (S' := []) dX8_item_378 rfl (fun _ _ _ => rfl) ?_
        refine zf_ic (v := 1) (pc' := 380) dX8_item_379 rfl rfl ?_
        exact zf_rb (b := true) dX8_item_380 rfl h
      · replace h := h.2.2.2.2.2.2.2.2.2.2.1 (by omega)
        refine zf_ld (pc' := 365) (v := .inr (.inr (1, 63))) dX8_item_364 rfl (fun _ _ _ => rfl) rfl rfl rfl ?_
        refine zf_ld (pc' := 366) (v := .inl v1) dX8_item_365 rfl (fun _ _ _ => rfl) rfl rfl rfl ?_
        refine zf_bi (v := 6) (pc' := 368) dX8_item_366 rfl rfl ?_
        refine zf_in (pc' := 369) (S' := [.inl (v1 - 6), .inr (.inr (1, 63))]) dX8_item_368 rfl (fun _ _ _ => rfl) ?_
        refine zf_ld (pc' := 370) (v := .inr (.inr (1, 63))) dX8_item_369 rfl (fun _ _ _ => rfl) rfl rfl rfl ?_
        refine zf_gfr (pc' := 373) (b := 78) dX8_item_370 rfl rfl (by decide) rfl rfl ?_
        refine zf_ic (v := 0) (pc' := 374) dX8_item_373 rfl rfl ?_
        refine zf_ial (j := 0) (pc' := 375) dX8_item_374 rfl (⟨by decide, rfl⟩ : zf_arr 78 2).1 (⟨by decide, rfl⟩ : zf_arr 78 2).2 (by decide) rfl ?_
        refine zf_iv (k := 149) (pc' := 378) (r := []) dX8_item_375 rfl rfl rfl rfl (by decide) rfl rfl rfl (zr_149 (by omega) h) (zf_kI (fun x31 m32 h => ?_))
        refine zf_in (pc' := 379) (S' := []) dX8_item_378 rfl (fun _ _ _ => rfl) ?_
        refine zf_ic (v := 1) (pc' := 380) dX8_item_379 rfl rfl ?_
        exact zf_rb (b := true) dX8_item_380 rfl h
      · replace h := h.2.2.2.2.2.2.2.2.2.2.2.1 (by omega)
        refine zf_ld (pc' := 365) (v := .inr (.inr (1, 63))) dX8_item_364 rfl (fun _ _ _ => rfl) rfl rfl rfl ?_
        refine zf_ld (pc' := 366) (v := .inl v1) dX8_item_365 rfl (fun _ _ _ => rfl) rfl rfl rfl ?_
        refine zf_bi (v := 6) (pc' := 368) dX8_item_366 rfl rfl ?_
        refine zf_in (pc' := 369) (S' := [.inl (v1 - 6), .inr (.inr (1, 63))]) dX8_item_368 rfl (fun _ _ _ => rfl) ?_
        refine zf_ld (pc' := 370) (v := .inr (.inr (1, 63))) dX8_item_369 rfl (fun _ _ _ => rfl) rfl rfl rfl ?_
        refine zf_gfr (pc' := 373) (b := 78) dX8_item_370 rfl rfl (by decide) rfl rfl ?_
        refine zf_ic (v := 0) (pc' := 374) dX8_item_373 rfl rfl ?_
        refine zf_ial (j := 0) (pc' := 375) dX8_item_374 rfl (⟨by decide, rfl⟩ : zf_arr 78 2).1 (⟨by decide, rfl⟩ : zf_arr 78 2).2 (by decide) rfl ?_
        refine zf_iv (k := 149) (pc' := 378) (r := []) dX8_item_375 rfl rfl rfl rfl (by decide) rfl rfl rfl (zr_149 (by omega) h) (zf_kI (fun x33 m34 h => ?_))
        refine zf_in (pc' := 379) (S' := []) dX8_item_378 rfl (fun _ _ _ => rfl) ?_
        refine zf_ic (v := 1) (pc' := 380) dX8_item_379 rfl rfl ?_
        exact zf_rb (b := true) dX8_item_380 rfl h
      · replace h := h.2.2.2.2.2.2.2.2.2.2.2.2 (by omega)
        refine zf_ld (pc' := 352) (v := .inr (.inr (1, 63))) dX8_item_351 rfl (fun _ _ _ => rfl) rfl rfl rfl ?_
        refine zf_ld (pc' := 353) (v := .inr (.inr (1, 63))) dX8_item_352 rfl (fun _ _ _ => rfl) rfl rfl rfl ?_
        refine zf_gfr (pc' := 356) (b := 78) dX8_item_353 rfl rfl (by decide) rfl rfl ?_
        refine zf_ic (v := 0) (pc' := 357) dX8_item_356 rfl rfl ?_
        refine zf_ial (j := 0) (pc' := 358) dX8_item_357 rfl (⟨by decide, rfl⟩ : zf_arr 78 2).1 (⟨by decide, rfl⟩ : zf_arr 78 2).2 (by decide) rfl ?_
        refine zf_iv (k := 169) (pc' := 361) (r := []) dX8_item_358 rfl rfl rfl rfl (by decide) rfl rfl rfl (zr_169 (by omega) h) (zf_kO (fun m36 h => ?_))
        refine zf_goto (tgt := 379) dX8_item_361 rfl ?_
        refine zf_ic (v := 1) (pc' := 380) dX8_item_379 rfl rfl ?_
        exact zf_rb (b := true) dX8_item_380 rfl h
    · replace h := h.2 g
      refine zf_ld (pc' := 91) (v := .inl v2) dX8_item_90 rfl (fun _ _ _ => rfl) rfl rfl rfl ?_
      refine zf_if_le (tgt := 144) (pc' := 94) dX8_item_91 rfl rfl (fun g => ?_) (fun g => ?_)
      · replace h := h.1 g
        exact zf_lo (zq_159_144 (by omega) ih h) ⟨rfl, rfl, rfl, trivial⟩
      · replace h := h.2 g
        refine zf_ld (pc' := 95) (v := .inr (.inr (1, 63))) dX8_item_94 rfl (fun _ _ _ => rfl) rfl rfl rfl ?_
        refine zf_gfi (pc' := 98) dX8_item_95 rfl rfl (by decide) rfl rfl ?_
        refine zf_ld (pc' := 99) (v := .inr (.inr (1, 63))) dX8_item_98 rfl (fun _ _ _ => rfl) rfl rfl rfl ?_
        refine zf_gfi (pc' := 102) dX8_item_99 rfl rfl (by decide) rfl rfl ?_
        refine zf_icmp_ge (tgt := 125) (pc' := 105) dX8_item_102 rfl rfl (fun g => ?_) (fun g => ?_)
        · replace h := h.1 g
          refine zf_ld (pc' := 126) (v := .inr (.inr (1, 63))) dX8_item_125 rfl (fun _ _ _ => rfl) rfl rfl rfl ?_
          refine zf_ld (pc' := 127) (v := .inr (.inr (1, 63))) dX8_item_126 rfl (fun _ _ _ => rfl) rfl rfl rfl ?_
          refine zf_gfi (pc' := 130) dX8_item_127 rfl rfl (by decide) rfl rfl ?_
          refine zf_iv (k := 153) (pc' := 133) (r := []) dX8_item_130 rfl rfl rfl rfl (by decide) rfl rfl rfl (zr_153 (by omega) h) (zf_kB (fun b45 m46 h => ?_))
          exact zf_rb (b := b45) dX8_item_133 rfl h
        · replace h := h.2 g
          refine zf_ld (pc' := 106) (v := .inr (.inr (1, 63))) dX8_item_105 rfl (fun _ _ _ => rfl) rfl rfl rfl ?_
          refine zf_gfr (pc' := 109) (b := 74) dX8_item_106 rfl rfl (by decide) rfl rfl ?_
          refine zf_ld (pc' := 110) (v := .inr (.inr (1, 63))) dX8_item_109 rfl (fun _ _ _ => rfl) rfl rfl rfl ?_
          refine zf_gfi (pc' := 113) dX8_item_110 rfl rfl (by decide) rfl rfl ?_
          refine zf_ld (pc' := 114) (v := .inr (.inr (1, 63))) dX8_item_113 rfl (fun _ _ _ => rfl) rfl rfl rfl ?_
          refine zf_gfi (pc' := 117) dX8_item_114 rfl rfl (by decide) rfl rfl ?_
          refine zf_in (pc' := 118) (S' := [.inl ((m.1 63 29) + (m.1 63 30)), .inr (.inr (1, 74))]) dX8_item_117 rfl (fun _ _ _ => rfl) ?_
          refine zf_lal (pc' := 119) dX8_item_118 rfl (⟨by decide, rfl⟩ : zf_larr 74 1280).1 (⟨by decide, rfl⟩ : zf_larr 74 1280).2 h.1 rfl ?_
          replace h := h.2
          refine zf_in (pc' := 120) (S' := [.inl (Int64.toInt32 (m.2 74 (Int32.toInt ((m.1 63 29) + (m.1 63 30))).toNat))]) dX8_item_119 rfl (fun _ _ _ => rfl) ?_
          refine zf_bi (v := 32) (pc' := 122) dX8_item_120 rfl rfl ?_
          refine zf_icmp_eq (tgt := 134) (pc' := 125) dX8_item_122 rfl rfl (fun g => ?_) (fun g => ?_)
          · replace h := h.1 g
            refine zf_ld (pc' := 135) (v := .inr (.inr (1, 63))) dX8_item_134 rfl (fun _ _ _ => rfl) rfl rfl rfl ?_
            refine zf_in (pc' := 136) (S' := [.inr (.inr (1, 63)), .inr (.inr (1, 63))]) dX8_item_135 rfl (fun _ _ _ => rfl) ?_
            refine zf_gfi (pc' := 139) dX8_item_136 rfl rfl (by decide) rfl rfl ?_
            refine zf_ic (v := 1) (pc' := 140) dX8_item_139 rfl rfl ?_
            refine zf_in (pc' := 141) (S' := [.inl ((m.1 63 30) + 1), .inr (.inr (1, 63))]) dX8_item_140 rfl (fun _ _ _ => rfl) ?_
            refine zf_pf (pc' := 144) dX8_item_141 rfl rfl (by decide) rfl rfl rfl (fun m47 e48 => ?_)
            replace h := h m47 e48
            exact zf_lo (zq_159_144 (by omega) ih h) ⟨rfl, rfl, rfl, trivial⟩
          · replace h := h.2 g
            refine zf_ld (pc' := 126) (v := .inr (.inr (1, 63))) dX8_item_125 rfl (fun _ _ _ => rfl) rfl rfl rfl ?_
            refine zf_ld (pc' := 127) (v := .inr (.inr (1, 63))) dX8_item_126 rfl (fun _ _ _ => rfl) rfl rfl rfl ?_
            refine zf_gfi (pc' := 130) dX8_item_127 rfl rfl (by decide) rfl rfl ?_
            refine zf_iv (k := 153) (pc' := 133) (r := []) dX8_item_130 rfl rfl rfl rfl (by decide) rfl rfl rfl (zr_153 (by omega) h) (zf_kB (fun b49 m50 h => ?_))
            exact zf_rb (b := b49) dX8_item_133 rfl h
def wq_159_66 (m : zf_Me) (Q : Bool → zf_Me → Prop) : Prop := wp_155 m (fun x9 m10 => ((¬ x9.toInt = (-1) → (∃ n80, wq_159_80 Q n80 x9 0 m10)) ∧ (x9.toInt = (-1) → Q false m10)))
theorem zq_159_66 {d : Nat} (hd : 4 ≤ d) {Q : Bool → zf_Me → Prop} {m : zf_Me} (h : wq_159_66 m Q) : zf_W none 0 0 d zt_159 66 [some (.inr (.inr (1, 63))), none, none, none] [] m (zf_B Q) := by
  obtain ⟨e, rfl⟩ : ∃ z, d = z + 1 := ⟨d - 1, by omega⟩
  unfold wq_159_66 at h
  refine zf_ld (pc' := 67) (v := .inr (.inr (1, 63))) dX8_item_66 rfl (fun _ _ _ => rfl) rfl rfl rfl ?_
  refine zf_iv (k := 155) (pc' := 70) (r := []) dX8_item_67 rfl rfl rfl rfl (by decide) rfl rfl rfl (zr_155 (by omega) h) (zf_kI (fun x9 m10 h => ?_))
  refine zf_st (pc' := 71) (L2 := [some (.inr (.inr (1, 63))), some (.inl x9), none, none]) dX8_item_70 rfl (fun _ _ _ => rfl) rfl rfl rfl rfl rfl rfl ?_
  refine zf_ld (pc' := 72) (v := .inl x9) dX8_item_71 rfl (fun _ _ _ => rfl) rfl rfl rfl ?_
  refine zf_ic (v := (-1)) (pc' := 73) dX8_item_72 rfl rfl ?_
  refine zf_icmp_ne (tgt := 78) (pc' := 76) dX8_item_73 rfl rfl (fun g => ?_) (fun g => ?_)
  · replace h := h.1 g
    refine zf_ic (v := 0) (pc' := 79) dX8_item_78 rfl rfl ?_
    refine zf_st (pc' := 80) (L2 := [some (.inr (.inr (1, 63))), some (.inl x9), some (.inl 0), none]) dX8_item_79 rfl (fun _ _ _ => rfl) rfl rfl rfl rfl rfl rfl ?_
    obtain ⟨n80, h⟩ := h
    exact zf_lo (zq_159_80 (by omega) n80 _ _ _ h) ⟨rfl, rfl, rfl, trivial⟩
  · replace h := h.2 g
    refine zf_ic (v := 0) (pc' := 77) dX8_item_76 rfl rfl ?_
    exact zf_rb (b := false) dX8_item_77 rfl h
def wq_159_40 (m : zf_Me) (Q : Bool → zf_Me → Prop) : Prop := wp_154 3 m (fun b7 m8 => ((b7 = false → wq_159_66 m8 Q) ∧ (b7 = true → ((¬ ((m8.1 63 1)).toInt = 6 → wq_159_66 m8 Q) ∧ (((m8.1 63 1)).toInt = 6 → wp_153 (m8.1 63 30) m8 (fun b51 m52 => Q b51 m52))))))
theorem zq_159_40 {d : Nat} (hd : 4 ≤ d) {Q : Bool → zf_Me → Prop} {m : zf_Me} (h : wq_159_40 m Q) : zf_W none 0 0 d zt_159 40 [some (.inr (.inr (1, 63))), none, none, none] [] m (zf_B Q) := by
  obtain ⟨e, rfl⟩ : ∃ z, d = z + 1 := ⟨d - 1, by omega⟩
  unfold wq_159_40 at h
  refine zf_ld (pc' := 41) (v := .inr (.inr (1, 63))) dX8_item_40 rfl (fun _ _ _ => rfl) rfl rfl rfl ?_
  refine zf_ic (v := 3) (pc' := 42) dX8_item_41 rfl rfl ?_
  refine zf_iv (k := 154) (pc' := 45) (r := []) dX8_item_42 rfl rfl rfl rfl (by decide) rfl rfl rfl (zr_154 (by omega) h) (zf_kB (fun b7 m8 h => ?_))
  refine zf_ib_eq (tgt := 66) (pc' := 48) dX8_item_45 rfl rfl (fun g => ?_) (fun g => ?_)
  · replace h := h.1 g
    exact zf_lo (zq_159_66 (by omega) h) ⟨rfl, trivial⟩
  · replace h := h.2 g
    refine zf_ld (pc' := 49) (v := .inr (.inr (1, 63))) dX8_item_48 rfl (fun _ _ _ => rfl) rfl rfl rfl ?_
    refine zf_gfi (pc' := 52) dX8_item_49 rfl rfl (by decide) rfl rfl ?_
    refine zf_bi (v := 6) (pc' := 54) dX8_item_52 rfl rfl ?_
    refine zf_icmp_ne (tgt := 66) (pc' := 57) dX8_item_54 rfl rfl (fun g => ?_) (fun g => ?_)
    · replace h := h.1 g
      exact zf_lo (zq_159_66 (by omega) h) ⟨rfl, trivial⟩
    · replace h := h.2 g
      refine zf_ld (pc' := 58) (v := .inr (.inr (1, 63))) dX8_item_57 rfl (fun _ _ _ => rfl) rfl rfl rfl ?_
      refine zf_ld (pc' := 59) (v := .inr (.inr (1, 63))) dX8_item_58 rfl (fun _ _ _ => rfl) rfl rfl rfl ?_
      refine zf_gfi (pc' := 62) dX8_item_59 rfl rfl (by decide) rfl rfl ?_
      refine zf_iv (k := 153) (pc' := 65) (r := []) dX8_item_62 rfl rfl rfl rfl (by decide) rfl rfl rfl (zr_153 (by omega) h) (zf_kB (fun b51 m52 h => ?_))
      exact zf_rb (b := b51) dX8_item_65 rfl h
def wq_159_25 (m : zf_Me) (Q : Bool → zf_Me → Prop) : Prop := wp_154 2 m (fun b5 m6 => ((b5 = false → wq_159_40 m6 Q) ∧ (b5 = true → ((((m6.1 63 0)).toInt = 0 → wp_153 (m6.1 63 30) m6 (fun b53 m54 => Q b53 m54)) ∧ (¬ ((m6.1 63 0)).toInt = 0 → wq_159_40 m6 Q)))))
theorem zq_159_25 {d : Nat} (hd : 4 ≤ d) {Q : Bool → zf_Me → Prop} {m : zf_Me} (h : wq_159_25 m Q) : zf_W none 0 0 d zt_159 25 [some (.inr (.inr (1, 63))), none, none, none] [] m (zf_B Q) := by
  obtain ⟨e, rfl⟩ : ∃ z, d = z + 1 := ⟨d - 1, by omega⟩
  unfold wq_159_25 at h
  refine zf_ld (pc' := 26) (v := .inr (.inr (1, 63))) dX8_item_25 rfl (fun _ _ _ => rfl) rfl rfl rfl ?_
  refine zf_ic (v := 2) (pc' := 27) dX8_item_26 rfl rfl ?_
  refine zf_iv (k := 154) (pc' := 30) (r := []) dX8_item_27 rfl rfl rfl rfl (by decide) rfl rfl rfl (zr_154 (by omega) h) (zf_kB (fun b5 m6 h => ?_))
  refine zf_ib_eq (tgt := 40) (pc' := 33) dX8_item_30 rfl rfl (fun g => ?_) (fun g => ?_)
  · replace h := h.1 g
    exact zf_lo (zq_159_40 (by omega) h) ⟨rfl, trivial⟩
  · replace h := h.2 g
    refine zf_ld (pc' := 34) (v := .inr (.inr (1, 63))) dX8_item_33 rfl (fun _ _ _ => rfl) rfl rfl rfl ?_
    refine zf_gfi (pc' := 37) dX8_item_34 rfl rfl (by decide) rfl rfl ?_
    refine zf_if_eq (tgt := 57) (pc' := 40) dX8_item_37 rfl rfl (fun g => ?_) (fun g => ?_)
    · replace h := h.1 g
      refine zf_ld (pc' := 58) (v := .inr (.inr (1, 63))) dX8_item_57 rfl (fun _ _ _ => rfl) rfl rfl rfl ?_
      refine zf_ld (pc' := 59) (v := .inr (.inr (1, 63))) dX8_item_58 rfl (fun _ _ _ => rfl) rfl rfl rfl ?_
      refine zf_gfi (pc' := 62) dX8_item_59 rfl rfl (by decide) rfl rfl ?_
      refine zf_iv (k := 153) (pc' := 65) (r := []) dX8_item_62 rfl rfl rfl rfl (by decide) rfl rfl rfl (zr_153 (by omega) h) (zf_kB (fun b53 m54 h => ?_))
      exact zf_rb (b := b53) dX8_item_65 rfl h
    · replace h := h.2 g
      exact zf_lo (zq_159_40 (by omega) h) ⟨rfl, trivial⟩
def wq_159_16 (m : zf_Me) (Q : Bool → zf_Me → Prop) : Prop := ((((m.1 63 0)).toInt = 24 → wp_153 (m.1 63 30) m (fun b3 m4 => Q b3 m4)) ∧ (¬ ((m.1 63 0)).toInt = 24 → wq_159_25 m Q))
theorem zq_159_16 {d : Nat} (hd : 4 ≤ d) {Q : Bool → zf_Me → Prop} {m : zf_Me} (h : wq_159_16 m Q) : zf_W none 0 0 d zt_159 16 [some (.inr (.inr (1, 63))), none, none, none] [] m (zf_B Q) := by
  obtain ⟨e, rfl⟩ : ∃ z, d = z + 1 := ⟨d - 1, by omega⟩
  unfold wq_159_16 at h
  refine zf_ld (pc' := 17) (v := .inr (.inr (1, 63))) dX8_item_16 rfl (fun _ _ _ => rfl) rfl rfl rfl ?_
  refine zf_gfi (pc' := 20) dX8_item_17 rfl rfl (by decide) rfl rfl ?_
  refine zf_bi (v := 24) (pc' := 22) dX8_item_20 rfl rfl ?_
  refine zf_icmp_eq (tgt := 57) (pc' := 25) dX8_item_22 rfl rfl (fun g => ?_) (fun g => ?_)
  · replace h := h.1 g
    refine zf_ld (pc' := 58) (v := .inr (.inr (1, 63))) dX8_item_57 rfl (fun _ _ _ => rfl) rfl rfl rfl ?_
    refine zf_ld (pc' := 59) (v := .inr (.inr (1, 63))) dX8_item_58 rfl (fun _ _ _ => rfl) rfl rfl rfl ?_
    refine zf_gfi (pc' := 62) dX8_item_59 rfl rfl (by decide) rfl rfl ?_
    refine zf_iv (k := 153) (pc' := 65) (r := []) dX8_item_62 rfl rfl rfl rfl (by decide) rfl rfl rfl (zr_153 (by omega) h) (zf_kB (fun b3 m4 h => ?_))
    exact zf_rb (b := b3) dX8_item_65 rfl h
  · replace h := h.2 g
    exact zf_lo (zq_159_25 (by omega) h) ⟨rfl, trivial⟩
def wp_159 (m : zf_Me) (Q : Bool → zf_Me → Prop) : Prop := wp_154 0 m (fun b1 m2 => ((b1 = true → wq_159_16 m2 Q) ∧ (b1 = false → wp_154 1 m2 (fun b55 m56 => ((b55 = false → wq_159_25 m56 Q) ∧ (b55 = true → wq_159_16 m56 Q))))))
theorem zr_159 {d : Nat} (hd : 4 ≤ d) {Q : Bool → zf_Me → Prop} {m : zf_Me} (h : wp_159 m Q) : zf_M d 159 [.inr (.inr (1, 63))] m (zf_B Q) := by
  obtain ⟨e, rfl⟩ : ∃ z, d = z + 1 := ⟨d - 1, by omega⟩
  unfold wp_159 at h
  refine zf_M_of (Nat.le_of_ble_eq_true rfl) zm_159 (L := [some (.inr (.inr (1, 63))), none, none, none]) rfl ?_
  refine zf_ld (pc' := 1) (v := .inr (.inr (1, 63))) dX8_item_0 rfl (fun _ _ _ => rfl) rfl rfl rfl ?_
  refine zf_ic (v := 0) (pc' := 2) dX8_item_1 rfl rfl ?_
  refine zf_iv (k := 154) (pc' := 5) (r := []) dX8_item_2 rfl rfl rfl rfl (by decide) rfl rfl rfl (zr_154 (by omega) h) (zf_kB (fun b1 m2 h => ?_))
  refine zf_ib_ne (tgt := 16) (pc' := 8) dX8_item_5 rfl rfl (fun g => ?_) (fun g => ?_)
  · replace h := h.1 g
    exact zf_lo (zq_159_16 (by omega) h) ⟨rfl, trivial⟩
  · replace h := h.2 g
    refine zf_ld (pc' := 9) (v := .inr (.inr (1, 63))) dX8_item_8 rfl (fun _ _ _ => rfl) rfl rfl rfl ?_
    refine zf_ic (v := 1) (pc' := 10) dX8_item_9 rfl rfl ?_
    refine zf_iv (k := 154) (pc' := 13) (r := []) dX8_item_10 rfl rfl rfl rfl (by decide) rfl rfl rfl (zr_154 (by omega) h) (zf_kB (fun b55 m56 h => ?_))
    refine zf_ib_eq (tgt := 25) (pc' := 16) dX8_item_13 rfl rfl (fun g => ?_) (fun g => ?_)
    · replace h := h.1 g
      exact zf_lo (zq_159_25 (by omega) h) ⟨rfl, trivial⟩
    · replace h := h.2 g
      exact zf_lo (zq_159_16 (by omega) h) ⟨rfl, trivial⟩
def zt_160 : zx_MT := (8, yX8_carries, cX8_carries, 7, (some FieldType.int), 5, 0)
theorem zm_160 : zx_m 160 = zt_160 := rfl
theorem dX8_carries_r0 : zdcP cX8_carries 0 [(.iconst 0, 1), (.istore 6, 2), (.iload 6, 2), (.iload_n 2, 1), (.if_icmp .ge 39, 3), (.iload 5, 2), (.ifCond .eq 17, 3), (.aload_n 1, 1), (.iload 6, 2), (.aload_n 3, 1), (.iload 4, 2), (.iload 6, 2), (.iadd, 1), (.iaload, 1), (.iastore, 1), (.goto 14, 3)] := zdcA_ok (by decide +kernel)
theorem dX8_carries_0 : decode cX8_carries 0 = .ok (.iconst 0, 1) := dX8_carries_r0.1
theorem dX8_carries_1 : decode cX8_carries 1 = .ok (.istore 6, 2) := dX8_carries_r0.2.1
theorem dX8_carries_3 : decode cX8_carries 3 = .ok (.iload 6, 2) := dX8_carries_r0.2.2.1
theorem dX8_carries_5 : decode cX8_carries 5 = .ok (.iload_n 2, 1) := dX8_carries_r0.2.2.2.1
theorem dX8_carries_6 : decode cX8_carries 6 = .ok (.if_icmp .ge 39, 3) := dX8_carries_r0.2.2.2.2.1
theorem dX8_carries_9 : decode cX8_carries 9 = .ok (.iload 5, 2) := dX8_carries_r0.2.2.2.2.2.1
theorem dX8_carries_11 : decode cX8_carries 11 = .ok (.ifCond .eq 17, 3) := dX8_carries_r0.2.2.2.2.2.2.1
theorem dX8_carries_14 : decode cX8_carries 14 = .ok (.aload_n 1, 1) := dX8_carries_r0.2.2.2.2.2.2.2.1
theorem dX8_carries_15 : decode cX8_carries 15 = .ok (.iload 6, 2) := dX8_carries_r0.2.2.2.2.2.2.2.2.1
theorem dX8_carries_17 : decode cX8_carries 17 = .ok (.aload_n 3, 1) := dX8_carries_r0.2.2.2.2.2.2.2.2.2.1
theorem dX8_carries_18 : decode cX8_carries 18 = .ok (.iload 4, 2) := dX8_carries_r0.2.2.2.2.2.2.2.2.2.2.1
theorem dX8_carries_20 : decode cX8_carries 20 = .ok (.iload 6, 2) := dX8_carries_r0.2.2.2.2.2.2.2.2.2.2.2.1
theorem dX8_carries_22 : decode cX8_carries 22 = .ok (.iadd, 1) := dX8_carries_r0.2.2.2.2.2.2.2.2.2.2.2.2.1
theorem dX8_carries_23 : decode cX8_carries 23 = .ok (.iaload, 1) := dX8_carries_r0.2.2.2.2.2.2.2.2.2.2.2.2.2.1
theorem dX8_carries_24 : decode cX8_carries 24 = .ok (.iastore, 1) := dX8_carries_r0.2.2.2.2.2.2.2.2.2.2.2.2.2.2.1
theorem dX8_carries_25 : decode cX8_carries 25 = .ok (.goto 14, 3) := dX8_carries_r0.2.2.2.2.2.2.2.2.2.2.2.2.2.2.2.1
theorem dX8_carries_r28 : zdcP cX8_carries 28 [(.aload_n 3, 1), (.iload 4, 2), (.iload 6, 2), (.iadd, 1), (.aload_n 1, 1), (.iload 6, 2), (.iaload, 1), (.iastore, 1), (.iinc 6 1, 3), (.goto (-39), 3), (.iload 4, 2), (.iload_n 2, 1), (.iadd, 1), (.ireturn, 1)] := zdcA_ok (by decide +kernel)
theorem dX8_carries_28 : decode cX8_carries 28 = .ok (.aload_n 3, 1) := dX8_carries_r28.1
theorem dX8_carries_29 : decode cX8_carries 29 = .ok (.iload 4, 2) := dX8_carries_r28.2.1
theorem dX8_carries_31 : decode cX8_carries 31 = .ok (.iload 6, 2) := dX8_carries_r28.2.2.1
theorem dX8_carries_33 : decode cX8_carries 33 = .ok (.iadd, 1) := dX8_carries_r28.2.2.2.1
theorem dX8_carries_34 : decode cX8_carries 34 = .ok (.aload_n 1, 1) := dX8_carries_r28.2.2.2.2.1
theorem dX8_carries_35 : decode cX8_carries 35 = .ok (.iload 6, 2) := dX8_carries_r28.2.2.2.2.2.1
theorem dX8_carries_37 : decode cX8_carries 37 = .ok (.iaload, 1) := dX8_carries_r28.2.2.2.2.2.2.1
theorem dX8_carries_38 : decode cX8_carries 38 = .ok (.iastore, 1) := dX8_carries_r28.2.2.2.2.2.2.2.1
theorem dX8_carries_39 : decode cX8_carries 39 = .ok (.iinc 6 1, 3) := dX8_carries_r28.2.2.2.2.2.2.2.2.1
theorem dX8_carries_42 : decode cX8_carries 42 = .ok (.goto (-39), 3) := dX8_carries_r28.2.2.2.2.2.2.2.2.2.1
theorem dX8_carries_45 : decode cX8_carries 45 = .ok (.iload 4, 2) := dX8_carries_r28.2.2.2.2.2.2.2.2.2.2.1
theorem dX8_carries_47 : decode cX8_carries 47 = .ok (.iload_n 2, 1) := dX8_carries_r28.2.2.2.2.2.2.2.2.2.2.2.1
theorem dX8_carries_48 : decode cX8_carries 48 = .ok (.iadd, 1) := dX8_carries_r28.2.2.2.2.2.2.2.2.2.2.2.2.1
theorem dX8_carries_49 : decode cX8_carries 49 = .ok (.ireturn, 1) := dX8_carries_r28.2.2.2.2.2.2.2.2.2.2.2.2.2.1
def wq_160_3 (a1 : Nat) (n1 : Nat) (a3 : Nat) (n3 : Nat) (v2 : Int32) (v4 : Int32) (v5 : Int32) (Q : Int32 → zf_Me → Prop) : Nat → Int32 → zf_Me → Prop
  | 0, _, _ => False
  | n + 1, v6, m => ((v6.toInt ≥ v2.toInt → Q (v4 + v2) m) ∧ (v6.toInt < v2.toInt → ((v5.toInt = 0 → ((0 ≤ (Int32.toInt v6) ∧ (Int32.toInt v6) < (n1 : Int)) ∧ ((0 ≤ (Int32.toInt (v4 + v6)) ∧ (Int32.toInt (v4 + v6)) < (n3 : Int)) ∧ ∀ m1, m1 = zf_u m a3 (Int32.toInt (v4 + v6)).toNat (m.1 a1 (Int32.toInt v6).toNat) → wq_160_3 a1 n1 a3 n3 v2 v4 v5 Q n (v6 + 1) m1))) ∧ (¬ v5.toInt = 0 → ((0 ≤ (Int32.toInt (v4 + v6)) ∧ (Int32.toInt (v4 + v6)) < (n3 : Int)) ∧ ((0 ≤ (Int32.toInt v6) ∧ (Int32.toInt v6) < (n1 : Int)) ∧ ∀ m3, m3 = zf_u m a1 (Int32.toInt v6).toNat (m.1 a3 (Int32.toInt (v4 + v6)).toNat) → wq_160_3 a1 n1 a3 n3 v2 v4 v5 Q n (v6 + 1) m3))))))
theorem zq_160_3 {d : Nat} (hd : 0 ≤ d) {a1 : Nat} {n1 : Nat} {a3 : Nat} {n3 : Nat} (hp1 : zf_arr a1 n1) (hp3 : zf_arr a3 n3) {v2 : Int32} {v4 : Int32} {v5 : Int32} {Q : Int32 → zf_Me → Prop} : ∀ (n : Nat) (v6 : Int32) (m : zf_Me), wq_160_3 a1 n1 a3 n3 v2 v4 v5 Q n v6 m → zf_W none 0 0 d zt_160 3 [none, some (.inr (.inr (1, a1))), some (.inl v2), some (.inr (.inr (1, a3))), some (.inl v4), some (.inl v5), some (.inl v6)] [] m (zf_I Q) := by
  intro n
  induction n with
  | zero =>
    intro v6 m h
    exact h.elim
  | succ n ih =>
    intro v6 m h
    unfold wq_160_3 at h
    refine zf_ld (pc' := 5) (v := .inl v6) dX8_carries_3 rfl (fun _ _ _ => rfl) rfl rfl rfl ?_
    refine zf_ld (pc' := 6) (v := .inl v2) dX8_carries_5 rfl (fun _ _ _ => rfl) rfl rfl rfl ?_
    refine zf_icmp_ge (tgt := 45) (pc' := 9) dX8_carries_6 rfl rfl (fun g => ?_) (fun g => ?_)
    · replace h := h.1 g
      refine zf_ld (pc' := 47) (v := .inl v4) dX8_carries_45 rfl (fun _ _ _ => rfl) rfl rfl rfl ?_
      refine zf_ld (pc' := 48) (v := .inl v2) dX8_carries_47 rfl (fun _ _ _ => rfl) rfl rfl rfl ?_
      refine zf_in (pc' := 49) (S' := [.inl (v4 + v2)]) dX8_carries_48 rfl (fun _ _ _ => rfl) ?_
      exact zf_ri dX8_carries_49 rfl h
    · replace h := h.2 g
      refine zf_ld (pc' := 11) (v := .inl v5) dX8_carries_9 rfl (fun _ _ _ => rfl) rfl rfl rfl ?_
      refine zf_if_eq (tgt := 28) (pc' := 14) dX8_carries_11 rfl rfl (fun g => ?_) (fun g => ?_)
      · replace h := h.1 g
        refine zf_ld (pc' := 29) (v := .inr (.inr (1, a3))) dX8_carries_28 rfl (fun _ _ _ => rfl) rfl rfl rfl ?_
        refine zf_ld (pc' := 31) (v := .inl v4) dX8_carries_29 rfl (fun _ _ _ => rfl) rfl rfl rfl ?_
        refine zf_ld (pc' := 33) (v := .inl v6) dX8_carries_31 rfl (fun _ _ _ => rfl) rfl rfl rfl ?_
        refine zf_in (pc' := 34) (S' := [.inl (v4 + v6), .inr (.inr (1, a3))]) dX8_carries_33 rfl (fun _ _ _ => rfl) ?_
        refine zf_ld (pc' := 35) (v := .inr (.inr (1, a1))) dX8_carries_34 rfl (fun _ _ _ => rfl) rfl rfl rfl ?_
        refine zf_ld (pc' := 37) (v := .inl v6) dX8_carries_35 rfl (fun _ _ _ => rfl) rfl rfl rfl ?_
        refine zf_ial (pc' := 38) dX8_carries_37 rfl hp1.1 hp1.2 h.1 rfl ?_
        replace h := h.2
        refine zf_ias (pc' := 39) dX8_carries_38 rfl hp3.1 hp3.2 h.1 rfl (fun m1 e2 => ?_)
        replace h := h.2 m1 e2
        refine zf_ii (y := (v6 + 1)) (L2 := [none, some (.inr (.inr (1, a1))), some (.inl v2), some (.inr (.inr (1, a3))), some (.inl v4), some (.inl v5), some (.inl (v6 + 1))]) (pc' := 42) dX8_carries_39 rfl rfl rfl rfl rfl ?_
        refine zf_goto (tgt := 3) dX8_carries_42 rfl ?_
        exact zf_lo (ih _ _ h) ⟨rfl, rfl, rfl, rfl, rfl, rfl, trivial⟩
      · replace h := h.2 g
        refine zf_ld (pc' := 15) (v := .inr (.inr (1, a1))) dX8_carries_14 rfl (fun _ _ _ => rfl) rfl rfl rfl ?_
        refine zf_ld (pc' := 17) (v := .inl v6) dX8_carries_15 rfl (fun _ _ _ => rfl) rfl rfl rfl ?_
        refine zf_ld (pc' := 18) (v := .inr (.inr (1, a3))) dX8_carries_17 rfl (fun _ _ _ => rfl) rfl rfl rfl ?_
        refine zf_ld (pc' := 20) (v := .inl v4) dX8_carries_18 rfl (fun _ _ _ => rfl) rfl rfl rfl ?_
        refine zf_ld (pc' := 22) (v := .inl v6) dX8_carries_20 rfl (fun _ _ _ => rfl) rfl rfl rfl ?_
        refine zf_in (pc' := 23) (S' := [.inl (v4 + v6), .inr (.inr (1, a3)), .inl v6, .inr (.inr (1, a1))]) dX8_carries_22 rfl (fun _ _ _ => rfl) ?_
        refine zf_ial (pc' := 24) dX8_carries_23 rfl hp3.1 hp3.2 h.1 rfl ?_
        replace h := h.2
        refine zf_ias (pc' := 25) dX8_carries_24 rfl hp1.1 hp1.2 h.1 rfl (fun m3 e4 => ?_)
        replace h := h.2 m3 e4
        refine zf_goto (tgt := 39) dX8_carries_25 rfl ?_
        refine zf_ii (y := (v6 + 1)) (L2 := [none, some (.inr (.inr (1, a1))), some (.inl v2), some (.inr (.inr (1, a3))), some (.inl v4), some (.inl v5), some (.inl (v6 + 1))]) (pc' := 42) dX8_carries_39 rfl rfl rfl rfl rfl ?_
        refine zf_goto (tgt := 3) dX8_carries_42 rfl ?_
        exact zf_lo (ih _ _ h) ⟨rfl, rfl, rfl, rfl, rfl, rfl, trivial⟩
def wp_160 (a1 : Nat) (n1 : Nat) (a3 : Nat) (n3 : Nat) (v2 : Int32) (v4 : Int32) (v5 : Int32) (m : zf_Me) (Q : Int32 → zf_Me → Prop) : Prop := (∃ k3, wq_160_3 a1 n1 a3 n3 v2 v4 v5 Q k3 0 m)
theorem zr_160 {d : Nat} (hd : 0 ≤ d) {a1 : Nat} {n1 : Nat} {a3 : Nat} {n3 : Nat} (hp1 : zf_arr a1 n1) (hp3 : zf_arr a3 n3) {v2 : Int32} {v4 : Int32} {v5 : Int32} {Q : Int32 → zf_Me → Prop} {m : zf_Me} (h : wp_160 a1 n1 a3 n3 v2 v4 v5 m Q) : zf_M d 160 [.inr (.inr (1, 63)), .inr (.inr (1, a1)), .inl v2, .inr (.inr (1, a3)), .inl v4, .inl v5] m (zf_I Q) := by
  unfold wp_160 at h
  refine zf_M_of (Nat.le_of_ble_eq_true rfl) zm_160 (L := [some (.inr (.inr (1, 63))), some (.inr (.inr (1, a1))), some (.inl v2), some (.inr (.inr (1, a3))), some (.inl v4), some (.inl v5), none]) rfl ?_
  refine zf_ic (v := 0) (pc' := 1) dX8_carries_0 rfl rfl ?_
  refine zf_st (pc' := 3) (L2 := [some (.inr (.inr (1, 63))), some (.inr (.inr (1, a1))), some (.inl v2), some (.inr (.inr (1, a3))), some (.inl v4), some (.inl v5), some (.inl 0)]) dX8_carries_1 rfl (fun _ _ _ => rfl) rfl rfl rfl rfl rfl rfl ?_
  obtain ⟨k3, h⟩ := h
  exact zf_lo (zq_160_3 (by omega) hp1 hp3 k3 _ _ h) ⟨rfl, rfl, rfl, rfl, rfl, rfl, trivial⟩
def zt_161 : zx_MT := (8, yX8_all, cX8_all, 6, none, 3, 0)
theorem zm_161 : zx_m 161 = zt_161 := rfl
theorem dX8_all_r0 : zdcP cX8_all 0 [(.aload_n 0, 1), (.aload_n 0, 1), (.getfield 41, 3), (.bipush 24, 2), (.aload_n 1, 1), (.iload_n 2, 1), (.iload_n 3, 1), (.invokevirtual 200, 3), (.istore 4, 2), (.aload_n 0, 1), (.aload_n 0, 1), (.getfield 44, 3), (.bipush 24, 2), (.aload_n 1, 1), (.iload 4, 2), (.iload_n 3, 1)] := zdcA_ok (by decide +kernel)
theorem dX8_all_0 : decode cX8_all 0 = .ok (.aload_n 0, 1) := dX8_all_r0.1
theorem dX8_all_1 : decode cX8_all 1 = .ok (.aload_n 0, 1) := dX8_all_r0.2.1
theorem dX8_all_2 : decode cX8_all 2 = .ok (.getfield 41, 3) := dX8_all_r0.2.2.1
theorem dX8_all_5 : decode cX8_all 5 = .ok (.bipush 24, 2) := dX8_all_r0.2.2.2.1
theorem dX8_all_7 : decode cX8_all 7 = .ok (.aload_n 1, 1) := dX8_all_r0.2.2.2.2.1
theorem dX8_all_8 : decode cX8_all 8 = .ok (.iload_n 2, 1) := dX8_all_r0.2.2.2.2.2.1
theorem dX8_all_9 : decode cX8_all 9 = .ok (.iload_n 3, 1) := dX8_all_r0.2.2.2.2.2.2.1
theorem dX8_all_10 : decode cX8_all 10 = .ok (.invokevirtual 200, 3) := dX8_all_r0.2.2.2.2.2.2.2.1
theorem dX8_all_13 : decode cX8_all 13 = .ok (.istore 4, 2) := dX8_all_r0.2.2.2.2.2.2.2.2.1
theorem dX8_all_15 : decode cX8_all 15 = .ok (.aload_n 0, 1) := dX8_all_r0.2.2.2.2.2.2.2.2.2.1
theorem dX8_all_16 : decode cX8_all 16 = .ok (.aload_n 0, 1) := dX8_all_r0.2.2.2.2.2.2.2.2.2.2.1
theorem dX8_all_17 : decode cX8_all 17 = .ok (.getfield 44, 3) := dX8_all_r0.2.2.2.2.2.2.2.2.2.2.2.1
theorem dX8_all_20 : decode cX8_all 20 = .ok (.bipush 24, 2) := dX8_all_r0.2.2.2.2.2.2.2.2.2.2.2.2.1
theorem dX8_all_22 : decode cX8_all 22 = .ok (.aload_n 1, 1) := dX8_all_r0.2.2.2.2.2.2.2.2.2.2.2.2.2.1
theorem dX8_all_23 : decode cX8_all 23 = .ok (.iload 4, 2) := dX8_all_r0.2.2.2.2.2.2.2.2.2.2.2.2.2.2.1
theorem dX8_all_25 : decode cX8_all 25 = .ok (.iload_n 3, 1) := dX8_all_r0.2.2.2.2.2.2.2.2.2.2.2.2.2.2.2.1
theorem dX8_all_r26 : zdcP cX8_all 26 [(.invokevirtual 200, 3), (.istore 4, 2), (.aload_n 0, 1), (.aload_n 0, 1), (.getfield 47, 3), (.bipush 6, 2), (.aload_n 1, 1), (.iload 4, 2), (.iload_n 3, 1), (.invokevirtual 200, 3), (.istore 4, 2), (.aload_n 0, 1), (.aload_n 0, 1), (.getfield 50, 3), (.bipush 6, 2), (.aload_n 1, 1)] := zdcA_ok (by decide +kernel)
theorem dX8_all_26 : decode cX8_all 26 = .ok (.invokevirtual 200, 3) := dX8_all_r26.1
theorem dX8_all_29 : decode cX8_all 29 = .ok (.istore 4, 2) := dX8_all_r26.2.1
theorem dX8_all_31 : decode cX8_all 31 = .ok (.aload_n 0, 1) := dX8_all_r26.2.2.1
theorem dX8_all_32 : decode cX8_all 32 = .ok (.aload_n 0, 1) := dX8_all_r26.2.2.2.1
theorem dX8_all_33 : decode cX8_all 33 = .ok (.getfield 47, 3) := dX8_all_r26.2.2.2.2.1
theorem dX8_all_36 : decode cX8_all 36 = .ok (.bipush 6, 2) := dX8_all_r26.2.2.2.2.2.1
theorem dX8_all_38 : decode cX8_all 38 = .ok (.aload_n 1, 1) := dX8_all_r26.2.2.2.2.2.2.1
theorem dX8_all_39 : decode cX8_all 39 = .ok (.iload 4, 2) := dX8_all_r26.2.2.2.2.2.2.2.1
theorem dX8_all_41 : decode cX8_all 41 = .ok (.iload_n 3, 1) := dX8_all_r26.2.2.2.2.2.2.2.2.1
theorem dX8_all_42 : decode cX8_all 42 = .ok (.invokevirtual 200, 3) := dX8_all_r26.2.2.2.2.2.2.2.2.2.1
theorem dX8_all_45 : decode cX8_all 45 = .ok (.istore 4, 2) := dX8_all_r26.2.2.2.2.2.2.2.2.2.2.1
theorem dX8_all_47 : decode cX8_all 47 = .ok (.aload_n 0, 1) := dX8_all_r26.2.2.2.2.2.2.2.2.2.2.2.1
theorem dX8_all_48 : decode cX8_all 48 = .ok (.aload_n 0, 1) := dX8_all_r26.2.2.2.2.2.2.2.2.2.2.2.2.1
theorem dX8_all_49 : decode cX8_all 49 = .ok (.getfield 50, 3) := dX8_all_r26.2.2.2.2.2.2.2.2.2.2.2.2.2.1
theorem dX8_all_52 : decode cX8_all 52 = .ok (.bipush 6, 2) := dX8_all_r26.2.2.2.2.2.2.2.2.2.2.2.2.2.2.1
theorem dX8_all_54 : decode cX8_all 54 = .ok (.aload_n 1, 1) := dX8_all_r26.2.2.2.2.2.2.2.2.2.2.2.2.2.2.2.1
theorem dX8_all_r55 : zdcP cX8_all 55 [(.iload 4, 2), (.iload_n 3, 1), (.invokevirtual 200, 3), (.istore 4, 2), (.aload_n 0, 1), (.aload_n 0, 1), (.getfield 53, 3), (.bipush 6, 2), (.aload_n 1, 1), (.iload 4, 2), (.iload_n 3, 1), (.invokevirtual 200, 3), (.istore 4, 2), (.iconst 0, 1), (.istore 5, 2), (.iload 5, 2)] := zdcA_ok (by decide +kernel)
theorem dX8_all_55 : decode cX8_all 55 = .ok (.iload 4, 2) := dX8_all_r55.1
theorem dX8_all_57 : decode cX8_all 57 = .ok (.iload_n 3, 1) := dX8_all_r55.2.1
theorem dX8_all_58 : decode cX8_all 58 = .ok (.invokevirtual 200, 3) := dX8_all_r55.2.2.1
theorem dX8_all_61 : decode cX8_all 61 = .ok (.istore 4, 2) := dX8_all_r55.2.2.2.1
theorem dX8_all_63 : decode cX8_all 63 = .ok (.aload_n 0, 1) := dX8_all_r55.2.2.2.2.1
theorem dX8_all_64 : decode cX8_all 64 = .ok (.aload_n 0, 1) := dX8_all_r55.2.2.2.2.2.1
theorem dX8_all_65 : decode cX8_all 65 = .ok (.getfield 53, 3) := dX8_all_r55.2.2.2.2.2.2.1
theorem dX8_all_68 : decode cX8_all 68 = .ok (.bipush 6, 2) := dX8_all_r55.2.2.2.2.2.2.2.1
theorem dX8_all_70 : decode cX8_all 70 = .ok (.aload_n 1, 1) := dX8_all_r55.2.2.2.2.2.2.2.2.1
theorem dX8_all_71 : decode cX8_all 71 = .ok (.iload 4, 2) := dX8_all_r55.2.2.2.2.2.2.2.2.2.1
theorem dX8_all_73 : decode cX8_all 73 = .ok (.iload_n 3, 1) := dX8_all_r55.2.2.2.2.2.2.2.2.2.2.1
theorem dX8_all_74 : decode cX8_all 74 = .ok (.invokevirtual 200, 3) := dX8_all_r55.2.2.2.2.2.2.2.2.2.2.2.1
theorem dX8_all_77 : decode cX8_all 77 = .ok (.istore 4, 2) := dX8_all_r55.2.2.2.2.2.2.2.2.2.2.2.2.1
theorem dX8_all_79 : decode cX8_all 79 = .ok (.iconst 0, 1) := dX8_all_r55.2.2.2.2.2.2.2.2.2.2.2.2.2.1
theorem dX8_all_80 : decode cX8_all 80 = .ok (.istore 5, 2) := dX8_all_r55.2.2.2.2.2.2.2.2.2.2.2.2.2.2.1
theorem dX8_all_82 : decode cX8_all 82 = .ok (.iload 5, 2) := dX8_all_r55.2.2.2.2.2.2.2.2.2.2.2.2.2.2.2.1
theorem dX8_all_r84 : zdcP cX8_all 84 [(.iconst 5, 1), (.if_icmp .ge 42, 3), (.iload_n 3, 1), (.ifCond .eq 19, 3), (.aload_n 0, 1), (.iload 5, 2), (.aload_n 1, 1), (.iload 4, 2), (.iload 5, 2), (.iadd, 1), (.iaload, 1), (.invokevirtual 148, 3), (.goto 16, 3), (.aload_n 1, 1), (.iload 4, 2), (.iload 5, 2)] := zdcA_ok (by decide +kernel)
theorem dX8_all_84 : decode cX8_all 84 = .ok (.iconst 5, 1) := dX8_all_r84.1
theorem dX8_all_85 : decode cX8_all 85 = .ok (.if_icmp .ge 42, 3) := dX8_all_r84.2.1
theorem dX8_all_88 : decode cX8_all 88 = .ok (.iload_n 3, 1) := dX8_all_r84.2.2.1
theorem dX8_all_89 : decode cX8_all 89 = .ok (.ifCond .eq 19, 3) := dX8_all_r84.2.2.2.1
theorem dX8_all_92 : decode cX8_all 92 = .ok (.aload_n 0, 1) := dX8_all_r84.2.2.2.2.1
theorem dX8_all_93 : decode cX8_all 93 = .ok (.iload 5, 2) := dX8_all_r84.2.2.2.2.2.1
theorem dX8_all_95 : decode cX8_all 95 = .ok (.aload_n 1, 1) := dX8_all_r84.2.2.2.2.2.2.1
theorem dX8_all_96 : decode cX8_all 96 = .ok (.iload 4, 2) := dX8_all_r84.2.2.2.2.2.2.2.1
theorem dX8_all_98 : decode cX8_all 98 = .ok (.iload 5, 2) := dX8_all_r84.2.2.2.2.2.2.2.2.1
theorem dX8_all_100 : decode cX8_all 100 = .ok (.iadd, 1) := dX8_all_r84.2.2.2.2.2.2.2.2.2.1
theorem dX8_all_101 : decode cX8_all 101 = .ok (.iaload, 1) := dX8_all_r84.2.2.2.2.2.2.2.2.2.2.1
theorem dX8_all_102 : decode cX8_all 102 = .ok (.invokevirtual 148, 3) := dX8_all_r84.2.2.2.2.2.2.2.2.2.2.2.1
theorem dX8_all_105 : decode cX8_all 105 = .ok (.goto 16, 3) := dX8_all_r84.2.2.2.2.2.2.2.2.2.2.2.2.1
theorem dX8_all_108 : decode cX8_all 108 = .ok (.aload_n 1, 1) := dX8_all_r84.2.2.2.2.2.2.2.2.2.2.2.2.2.1
theorem dX8_all_109 : decode cX8_all 109 = .ok (.iload 4, 2) := dX8_all_r84.2.2.2.2.2.2.2.2.2.2.2.2.2.2.1
theorem dX8_all_111 : decode cX8_all 111 = .ok (.iload 5, 2) := dX8_all_r84.2.2.2.2.2.2.2.2.2.2.2.2.2.2.2.1
theorem dX8_all_r113 : zdcP cX8_all 113 [(.iadd, 1), (.aload_n 0, 1), (.iload 5, 2), (.invokevirtual 145, 3), (.iastore, 1), (.iinc 5 1, 3), (.goto (-42), 3), (.iinc 4 5, 3), (.iload_n 3, 1), (.ifCond .eq 86, 3), (.aload_n 0, 1), (.aload_n 1, 1), (.iload 4, 2), (.iaload, 1), (.putfield 108, 3), (.aload_n 0, 1)] := zdcA_ok (by decide +kernel)
theorem dX8_all_113 : decode cX8_all 113 = .ok (.iadd, 1) := dX8_all_r113.1
theorem dX8_all_114 : decode cX8_all 114 = .ok (.aload_n 0, 1) := dX8_all_r113.2.1
theorem dX8_all_115 : decode cX8_all 115 = .ok (.iload 5, 2) := dX8_all_r113.2.2.1
theorem dX8_all_117 : decode cX8_all 117 = .ok (.invokevirtual 145, 3) := dX8_all_r113.2.2.2.1
theorem dX8_all_120 : decode cX8_all 120 = .ok (.iastore, 1) := dX8_all_r113.2.2.2.2.1
theorem dX8_all_121 : decode cX8_all 121 = .ok (.iinc 5 1, 3) := dX8_all_r113.2.2.2.2.2.1
theorem dX8_all_124 : decode cX8_all 124 = .ok (.goto (-42), 3) := dX8_all_r113.2.2.2.2.2.2.1
theorem dX8_all_127 : decode cX8_all 127 = .ok (.iinc 4 5, 3) := dX8_all_r113.2.2.2.2.2.2.2.1
theorem dX8_all_130 : decode cX8_all 130 = .ok (.iload_n 3, 1) := dX8_all_r113.2.2.2.2.2.2.2.2.1
theorem dX8_all_131 : decode cX8_all 131 = .ok (.ifCond .eq 86, 3) := dX8_all_r113.2.2.2.2.2.2.2.2.2.1
theorem dX8_all_134 : decode cX8_all 134 = .ok (.aload_n 0, 1) := dX8_all_r113.2.2.2.2.2.2.2.2.2.2.1
theorem dX8_all_135 : decode cX8_all 135 = .ok (.aload_n 1, 1) := dX8_all_r113.2.2.2.2.2.2.2.2.2.2.2.1
theorem dX8_all_136 : decode cX8_all 136 = .ok (.iload 4, 2) := dX8_all_r113.2.2.2.2.2.2.2.2.2.2.2.2.1
theorem dX8_all_138 : decode cX8_all 138 = .ok (.iaload, 1) := dX8_all_r113.2.2.2.2.2.2.2.2.2.2.2.2.2.1
theorem dX8_all_139 : decode cX8_all 139 = .ok (.putfield 108, 3) := dX8_all_r113.2.2.2.2.2.2.2.2.2.2.2.2.2.2.1
theorem dX8_all_142 : decode cX8_all 142 = .ok (.aload_n 0, 1) := dX8_all_r113.2.2.2.2.2.2.2.2.2.2.2.2.2.2.2.1
theorem dX8_all_r143 : zdcP cX8_all 143 [(.aload_n 1, 1), (.iload 4, 2), (.iconst 1, 1), (.iadd, 1), (.iaload, 1), (.putfield 105, 3), (.aload_n 0, 1), (.aload_n 1, 1), (.iload 4, 2), (.iconst 2, 1), (.iadd, 1), (.iaload, 1), (.putfield 9, 3), (.aload_n 0, 1), (.aload_n 1, 1), (.iload 4, 2)] := zdcA_ok (by decide +kernel)
theorem dX8_all_143 : decode cX8_all 143 = .ok (.aload_n 1, 1) := dX8_all_r143.1
theorem dX8_all_144 : decode cX8_all 144 = .ok (.iload 4, 2) := dX8_all_r143.2.1
theorem dX8_all_146 : decode cX8_all 146 = .ok (.iconst 1, 1) := dX8_all_r143.2.2.1
theorem dX8_all_147 : decode cX8_all 147 = .ok (.iadd, 1) := dX8_all_r143.2.2.2.1
theorem dX8_all_148 : decode cX8_all 148 = .ok (.iaload, 1) := dX8_all_r143.2.2.2.2.1
theorem dX8_all_149 : decode cX8_all 149 = .ok (.putfield 105, 3) := dX8_all_r143.2.2.2.2.2.1
theorem dX8_all_152 : decode cX8_all 152 = .ok (.aload_n 0, 1) := dX8_all_r143.2.2.2.2.2.2.1
theorem dX8_all_153 : decode cX8_all 153 = .ok (.aload_n 1, 1) := dX8_all_r143.2.2.2.2.2.2.2.1
theorem dX8_all_154 : decode cX8_all 154 = .ok (.iload 4, 2) := dX8_all_r143.2.2.2.2.2.2.2.2.1
theorem dX8_all_156 : decode cX8_all 156 = .ok (.iconst 2, 1) := dX8_all_r143.2.2.2.2.2.2.2.2.2.1
theorem dX8_all_157 : decode cX8_all 157 = .ok (.iadd, 1) := dX8_all_r143.2.2.2.2.2.2.2.2.2.2.1
theorem dX8_all_158 : decode cX8_all 158 = .ok (.iaload, 1) := dX8_all_r143.2.2.2.2.2.2.2.2.2.2.2.1
theorem dX8_all_159 : decode cX8_all 159 = .ok (.putfield 9, 3) := dX8_all_r143.2.2.2.2.2.2.2.2.2.2.2.2.1
theorem dX8_all_162 : decode cX8_all 162 = .ok (.aload_n 0, 1) := dX8_all_r143.2.2.2.2.2.2.2.2.2.2.2.2.2.1
theorem dX8_all_163 : decode cX8_all 163 = .ok (.aload_n 1, 1) := dX8_all_r143.2.2.2.2.2.2.2.2.2.2.2.2.2.2.1
theorem dX8_all_164 : decode cX8_all 164 = .ok (.iload 4, 2) := dX8_all_r143.2.2.2.2.2.2.2.2.2.2.2.2.2.2.2.1
theorem dX8_all_r166 : zdcP cX8_all 166 [(.iconst 3, 1), (.iadd, 1), (.iaload, 1), (.putfield 13, 3), (.aload_n 0, 1), (.aload_n 1, 1), (.iload 4, 2), (.iconst 4, 1), (.iadd, 1), (.iaload, 1), (.putfield 204, 3), (.aload_n 0, 1), (.aload_n 1, 1), (.iload 4, 2), (.iconst 5, 1), (.iadd, 1)] := zdcA_ok (by decide +kernel)
theorem dX8_all_166 : decode cX8_all 166 = .ok (.iconst 3, 1) := dX8_all_r166.1
theorem dX8_all_167 : decode cX8_all 167 = .ok (.iadd, 1) := dX8_all_r166.2.1
theorem dX8_all_168 : decode cX8_all 168 = .ok (.iaload, 1) := dX8_all_r166.2.2.1
theorem dX8_all_169 : decode cX8_all 169 = .ok (.putfield 13, 3) := dX8_all_r166.2.2.2.1
theorem dX8_all_172 : decode cX8_all 172 = .ok (.aload_n 0, 1) := dX8_all_r166.2.2.2.2.1
theorem dX8_all_173 : decode cX8_all 173 = .ok (.aload_n 1, 1) := dX8_all_r166.2.2.2.2.2.1
theorem dX8_all_174 : decode cX8_all 174 = .ok (.iload 4, 2) := dX8_all_r166.2.2.2.2.2.2.1
theorem dX8_all_176 : decode cX8_all 176 = .ok (.iconst 4, 1) := dX8_all_r166.2.2.2.2.2.2.2.1
theorem dX8_all_177 : decode cX8_all 177 = .ok (.iadd, 1) := dX8_all_r166.2.2.2.2.2.2.2.2.1
theorem dX8_all_178 : decode cX8_all 178 = .ok (.iaload, 1) := dX8_all_r166.2.2.2.2.2.2.2.2.2.1
theorem dX8_all_179 : decode cX8_all 179 = .ok (.putfield 204, 3) := dX8_all_r166.2.2.2.2.2.2.2.2.2.2.1
theorem dX8_all_182 : decode cX8_all 182 = .ok (.aload_n 0, 1) := dX8_all_r166.2.2.2.2.2.2.2.2.2.2.2.1
theorem dX8_all_183 : decode cX8_all 183 = .ok (.aload_n 1, 1) := dX8_all_r166.2.2.2.2.2.2.2.2.2.2.2.2.1
theorem dX8_all_184 : decode cX8_all 184 = .ok (.iload 4, 2) := dX8_all_r166.2.2.2.2.2.2.2.2.2.2.2.2.2.1
theorem dX8_all_186 : decode cX8_all 186 = .ok (.iconst 5, 1) := dX8_all_r166.2.2.2.2.2.2.2.2.2.2.2.2.2.2.1
theorem dX8_all_187 : decode cX8_all 187 = .ok (.iadd, 1) := dX8_all_r166.2.2.2.2.2.2.2.2.2.2.2.2.2.2.2.1
theorem dX8_all_r188 : zdcP cX8_all 188 [(.iaload, 1), (.putfield 207, 3), (.aload_n 0, 1), (.aload_n 1, 1), (.iload 4, 2), (.bipush 6, 2), (.iadd, 1), (.iaload, 1), (.putfield 210, 3), (.aload_n 0, 1), (.aload_n 1, 1), (.iload 4, 2), (.bipush 7, 2), (.iadd, 1), (.iaload, 1), (.putfield 31, 3)] := zdcA_ok (by decide +kernel)
theorem dX8_all_188 : decode cX8_all 188 = .ok (.iaload, 1) := dX8_all_r188.1
theorem dX8_all_189 : decode cX8_all 189 = .ok (.putfield 207, 3) := dX8_all_r188.2.1
theorem dX8_all_192 : decode cX8_all 192 = .ok (.aload_n 0, 1) := dX8_all_r188.2.2.1
theorem dX8_all_193 : decode cX8_all 193 = .ok (.aload_n 1, 1) := dX8_all_r188.2.2.2.1
theorem dX8_all_194 : decode cX8_all 194 = .ok (.iload 4, 2) := dX8_all_r188.2.2.2.2.1
theorem dX8_all_196 : decode cX8_all 196 = .ok (.bipush 6, 2) := dX8_all_r188.2.2.2.2.2.1
theorem dX8_all_198 : decode cX8_all 198 = .ok (.iadd, 1) := dX8_all_r188.2.2.2.2.2.2.1
theorem dX8_all_199 : decode cX8_all 199 = .ok (.iaload, 1) := dX8_all_r188.2.2.2.2.2.2.2.1
theorem dX8_all_200 : decode cX8_all 200 = .ok (.putfield 210, 3) := dX8_all_r188.2.2.2.2.2.2.2.2.1
theorem dX8_all_203 : decode cX8_all 203 = .ok (.aload_n 0, 1) := dX8_all_r188.2.2.2.2.2.2.2.2.2.1
theorem dX8_all_204 : decode cX8_all 204 = .ok (.aload_n 1, 1) := dX8_all_r188.2.2.2.2.2.2.2.2.2.2.1
theorem dX8_all_205 : decode cX8_all 205 = .ok (.iload 4, 2) := dX8_all_r188.2.2.2.2.2.2.2.2.2.2.2.1
theorem dX8_all_207 : decode cX8_all 207 = .ok (.bipush 7, 2) := dX8_all_r188.2.2.2.2.2.2.2.2.2.2.2.2.1
theorem dX8_all_209 : decode cX8_all 209 = .ok (.iadd, 1) := dX8_all_r188.2.2.2.2.2.2.2.2.2.2.2.2.2.1
theorem dX8_all_210 : decode cX8_all 210 = .ok (.iaload, 1) := dX8_all_r188.2.2.2.2.2.2.2.2.2.2.2.2.2.2.1
theorem dX8_all_211 : decode cX8_all 211 = .ok (.putfield 31, 3) := dX8_all_r188.2.2.2.2.2.2.2.2.2.2.2.2.2.2.2.1
theorem dX8_all_r214 : zdcP cX8_all 214 [(.goto 83, 3), (.aload_n 1, 1), (.iload 4, 2), (.aload_n 0, 1), (.getfield 108, 3), (.iastore, 1), (.aload_n 1, 1), (.iload 4, 2), (.iconst 1, 1), (.iadd, 1), (.aload_n 0, 1), (.getfield 105, 3), (.iastore, 1), (.aload_n 1, 1), (.iload 4, 2), (.iconst 2, 1)] := zdcA_ok (by decide +kernel)
theorem dX8_all_214 : decode cX8_all 214 = .ok (.goto 83, 3) := dX8_all_r214.1
theorem dX8_all_217 : decode cX8_all 217 = .ok (.aload_n 1, 1) := dX8_all_r214.2.1
theorem dX8_all_218 : decode cX8_all 218 = .ok (.iload 4, 2) := dX8_all_r214.2.2.1
theorem dX8_all_220 : decode cX8_all 220 = .ok (.aload_n 0, 1) := dX8_all_r214.2.2.2.1
theorem dX8_all_221 : decode cX8_all 221 = .ok (.getfield 108, 3) := dX8_all_r214.2.2.2.2.1
theorem dX8_all_224 : decode cX8_all 224 = .ok (.iastore, 1) := dX8_all_r214.2.2.2.2.2.1
theorem dX8_all_225 : decode cX8_all 225 = .ok (.aload_n 1, 1) := dX8_all_r214.2.2.2.2.2.2.1
theorem dX8_all_226 : decode cX8_all 226 = .ok (.iload 4, 2) := dX8_all_r214.2.2.2.2.2.2.2.1
theorem dX8_all_228 : decode cX8_all 228 = .ok (.iconst 1, 1) := dX8_all_r214.2.2.2.2.2.2.2.2.1
theorem dX8_all_229 : decode cX8_all 229 = .ok (.iadd, 1) := dX8_all_r214.2.2.2.2.2.2.2.2.2.1
theorem dX8_all_230 : decode cX8_all 230 = .ok (.aload_n 0, 1) := dX8_all_r214.2.2.2.2.2.2.2.2.2.2.1
theorem dX8_all_231 : decode cX8_all 231 = .ok (.getfield 105, 3) := dX8_all_r214.2.2.2.2.2.2.2.2.2.2.2.1
theorem dX8_all_234 : decode cX8_all 234 = .ok (.iastore, 1) := dX8_all_r214.2.2.2.2.2.2.2.2.2.2.2.2.1
theorem dX8_all_235 : decode cX8_all 235 = .ok (.aload_n 1, 1) := dX8_all_r214.2.2.2.2.2.2.2.2.2.2.2.2.2.1
theorem dX8_all_236 : decode cX8_all 236 = .ok (.iload 4, 2) := dX8_all_r214.2.2.2.2.2.2.2.2.2.2.2.2.2.2.1
theorem dX8_all_238 : decode cX8_all 238 = .ok (.iconst 2, 1) := dX8_all_r214.2.2.2.2.2.2.2.2.2.2.2.2.2.2.2.1
theorem dX8_all_r239 : zdcP cX8_all 239 [(.iadd, 1), (.aload_n 0, 1), (.getfield 9, 3), (.iastore, 1), (.aload_n 1, 1), (.iload 4, 2), (.iconst 3, 1), (.iadd, 1), (.aload_n 0, 1), (.getfield 13, 3), (.iastore, 1), (.aload_n 1, 1), (.iload 4, 2), (.iconst 4, 1), (.iadd, 1), (.aload_n 0, 1)] := zdcA_ok (by decide +kernel)
theorem dX8_all_239 : decode cX8_all 239 = .ok (.iadd, 1) := dX8_all_r239.1
theorem dX8_all_240 : decode cX8_all 240 = .ok (.aload_n 0, 1) := dX8_all_r239.2.1
theorem dX8_all_241 : decode cX8_all 241 = .ok (.getfield 9, 3) := dX8_all_r239.2.2.1
theorem dX8_all_244 : decode cX8_all 244 = .ok (.iastore, 1) := dX8_all_r239.2.2.2.1
theorem dX8_all_245 : decode cX8_all 245 = .ok (.aload_n 1, 1) := dX8_all_r239.2.2.2.2.1
theorem dX8_all_246 : decode cX8_all 246 = .ok (.iload 4, 2) := dX8_all_r239.2.2.2.2.2.1
theorem dX8_all_248 : decode cX8_all 248 = .ok (.iconst 3, 1) := dX8_all_r239.2.2.2.2.2.2.1
theorem dX8_all_249 : decode cX8_all 249 = .ok (.iadd, 1) := dX8_all_r239.2.2.2.2.2.2.2.1
theorem dX8_all_250 : decode cX8_all 250 = .ok (.aload_n 0, 1) := dX8_all_r239.2.2.2.2.2.2.2.2.1
theorem dX8_all_251 : decode cX8_all 251 = .ok (.getfield 13, 3) := dX8_all_r239.2.2.2.2.2.2.2.2.2.1
theorem dX8_all_254 : decode cX8_all 254 = .ok (.iastore, 1) := dX8_all_r239.2.2.2.2.2.2.2.2.2.2.1
theorem dX8_all_255 : decode cX8_all 255 = .ok (.aload_n 1, 1) := dX8_all_r239.2.2.2.2.2.2.2.2.2.2.2.1
theorem dX8_all_256 : decode cX8_all 256 = .ok (.iload 4, 2) := dX8_all_r239.2.2.2.2.2.2.2.2.2.2.2.2.1
theorem dX8_all_258 : decode cX8_all 258 = .ok (.iconst 4, 1) := dX8_all_r239.2.2.2.2.2.2.2.2.2.2.2.2.2.1
theorem dX8_all_259 : decode cX8_all 259 = .ok (.iadd, 1) := dX8_all_r239.2.2.2.2.2.2.2.2.2.2.2.2.2.2.1
theorem dX8_all_260 : decode cX8_all 260 = .ok (.aload_n 0, 1) := dX8_all_r239.2.2.2.2.2.2.2.2.2.2.2.2.2.2.2.1
theorem dX8_all_r261 : zdcP cX8_all 261 [(.getfield 204, 3), (.iastore, 1), (.aload_n 1, 1), (.iload 4, 2), (.iconst 5, 1), (.iadd, 1), (.aload_n 0, 1), (.getfield 207, 3), (.iastore, 1), (.aload_n 1, 1), (.iload 4, 2), (.bipush 6, 2), (.iadd, 1), (.aload_n 0, 1), (.getfield 210, 3), (.iastore, 1)] := zdcA_ok (by decide +kernel)
theorem dX8_all_261 : decode cX8_all 261 = .ok (.getfield 204, 3) := dX8_all_r261.1
theorem dX8_all_264 : decode cX8_all 264 = .ok (.iastore, 1) := dX8_all_r261.2.1
theorem dX8_all_265 : decode cX8_all 265 = .ok (.aload_n 1, 1) := dX8_all_r261.2.2.1
theorem dX8_all_266 : decode cX8_all 266 = .ok (.iload 4, 2) := dX8_all_r261.2.2.2.1
theorem dX8_all_268 : decode cX8_all 268 = .ok (.iconst 5, 1) := dX8_all_r261.2.2.2.2.1
theorem dX8_all_269 : decode cX8_all 269 = .ok (.iadd, 1) := dX8_all_r261.2.2.2.2.2.1
theorem dX8_all_270 : decode cX8_all 270 = .ok (.aload_n 0, 1) := dX8_all_r261.2.2.2.2.2.2.1
theorem dX8_all_271 : decode cX8_all 271 = .ok (.getfield 207, 3) := dX8_all_r261.2.2.2.2.2.2.2.1
theorem dX8_all_274 : decode cX8_all 274 = .ok (.iastore, 1) := dX8_all_r261.2.2.2.2.2.2.2.2.1
theorem dX8_all_275 : decode cX8_all 275 = .ok (.aload_n 1, 1) := dX8_all_r261.2.2.2.2.2.2.2.2.2.1
theorem dX8_all_276 : decode cX8_all 276 = .ok (.iload 4, 2) := dX8_all_r261.2.2.2.2.2.2.2.2.2.2.1
theorem dX8_all_278 : decode cX8_all 278 = .ok (.bipush 6, 2) := dX8_all_r261.2.2.2.2.2.2.2.2.2.2.2.1
theorem dX8_all_280 : decode cX8_all 280 = .ok (.iadd, 1) := dX8_all_r261.2.2.2.2.2.2.2.2.2.2.2.2.1
theorem dX8_all_281 : decode cX8_all 281 = .ok (.aload_n 0, 1) := dX8_all_r261.2.2.2.2.2.2.2.2.2.2.2.2.2.1
theorem dX8_all_282 : decode cX8_all 282 = .ok (.getfield 210, 3) := dX8_all_r261.2.2.2.2.2.2.2.2.2.2.2.2.2.2.1
theorem dX8_all_285 : decode cX8_all 285 = .ok (.iastore, 1) := dX8_all_r261.2.2.2.2.2.2.2.2.2.2.2.2.2.2.2.1
theorem dX8_all_r286 : zdcP cX8_all 286 [(.aload_n 1, 1), (.iload 4, 2), (.bipush 7, 2), (.iadd, 1), (.aload_n 0, 1), (.getfield 31, 3), (.iastore, 1), (.return_, 1)] := zdcA_ok (by decide +kernel)
theorem dX8_all_286 : decode cX8_all 286 = .ok (.aload_n 1, 1) := dX8_all_r286.1
theorem dX8_all_287 : decode cX8_all 287 = .ok (.iload 4, 2) := dX8_all_r286.2.1
theorem dX8_all_289 : decode cX8_all 289 = .ok (.bipush 7, 2) := dX8_all_r286.2.2.1
theorem dX8_all_291 : decode cX8_all 291 = .ok (.iadd, 1) := dX8_all_r286.2.2.2.1
theorem dX8_all_292 : decode cX8_all 292 = .ok (.aload_n 0, 1) := dX8_all_r286.2.2.2.2.1
theorem dX8_all_293 : decode cX8_all 293 = .ok (.getfield 31, 3) := dX8_all_r286.2.2.2.2.2.1
theorem dX8_all_296 : decode cX8_all 296 = .ok (.iastore, 1) := dX8_all_r286.2.2.2.2.2.2.1
theorem dX8_all_297 : decode cX8_all 297 = .ok (.return_, 1) := dX8_all_r286.2.2.2.2.2.2.2.1
def wq_161_82 (a1 : Nat) (n1 : Nat) (v2 : Int32) (v3 : Int32) (Q : zf_Me → Prop) : Nat → Int32 → Int32 → zf_Me → Prop
  | 0, _, _, _ => False
  | n + 1, v4, v5, m => ((v5.toInt ≥ 5 → ((v3.toInt = 0 → ((0 ≤ (Int32.toInt (v4 + 5)) ∧ (Int32.toInt (v4 + 5)) < (n1 : Int)) ∧ ∀ m11, m11 = zf_u m a1 (Int32.toInt (v4 + 5)).toNat (m.1 63 0) → ((0 ≤ (Int32.toInt ((v4 + 5) + 1)) ∧ (Int32.toInt ((v4 + 5) + 1)) < (n1 : Int)) ∧ ∀ m13, m13 = zf_u m11 a1 (Int32.toInt ((v4 + 5) + 1)).toNat (m11.1 63 1) → ((0 ≤ (Int32.toInt ((v4 + 5) + 2)) ∧ (Int32.toInt ((v4 + 5) + 2)) < (n1 : Int)) ∧ ∀ m15, m15 = zf_u m13 a1 (Int32.toInt ((v4 + 5) + 2)).toNat (m13.1 63 2) → ((0 ≤ (Int32.toInt ((v4 + 5) + 3)) ∧ (Int32.toInt ((v4 + 5) + 3)) < (n1 : Int)) ∧ ∀ m17, m17 = zf_u m15 a1 (Int32.toInt ((v4 + 5) + 3)).toNat (m15.1 63 3) → ((0 ≤ (Int32.toInt ((v4 + 5) + 4)) ∧ (Int32.toInt ((v4 + 5) + 4)) < (n1 : Int)) ∧ ∀ m19, m19 = zf_u m17 a1 (Int32.toInt ((v4 + 5) + 4)).toNat (m17.1 63 6) → ((0 ≤ (Int32.toInt ((v4 + 5) + 5)) ∧ (Int32.toInt ((v4 + 5) + 5)) < (n1 : Int)) ∧ ∀ m21, m21 = zf_u m19 a1 (Int32.toInt ((v4 + 5) + 5)).toNat (m19.1 63 10) → ((0 ≤ (Int32.toInt ((v4 + 5) + 6)) ∧ (Int32.toInt ((v4 + 5) + 6)) < (n1 : Int)) ∧ ∀ m23, m23 = zf_u m21 a1 (Int32.toInt ((v4 + 5) + 6)).toNat (m21.1 63 11) → ((0 ≤ (Int32.toInt ((v4 + 5) + 7)) ∧ (Int32.toInt ((v4 + 5) + 7)) < (n1 : Int)) ∧ ∀ m25, m25 = zf_u m23 a1 (Int32.toInt ((v4 + 5) + 7)).toNat (m23.1 63 12) → Q m25))))))))) ∧ (¬ v3.toInt = 0 → ((0 ≤ (Int32.toInt (v4 + 5)) ∧ (Int32.toInt (v4 + 5)) < (n1 : Int)) ∧ (∀ m27, m27 = zf_u m 63 0 (m.1 a1 (Int32.toInt (v4 + 5)).toNat) → ((0 ≤ (Int32.toInt ((v4 + 5) + 1)) ∧ (Int32.toInt ((v4 + 5) + 1)) < (n1 : Int)) ∧ (∀ m29, m29 = zf_u m27 63 1 (m27.1 a1 (Int32.toInt ((v4 + 5) + 1)).toNat) → ((0 ≤ (Int32.toInt ((v4 + 5) + 2)) ∧ (Int32.toInt ((v4 + 5) + 2)) < (n1 : Int)) ∧ (∀ m31, m31 = zf_u m29 63 2 (m29.1 a1 (Int32.toInt ((v4 + 5) + 2)).toNat) → ((0 ≤ (Int32.toInt ((v4 + 5) + 3)) ∧ (Int32.toInt ((v4 + 5) + 3)) < (n1 : Int)) ∧ (∀ m33, m33 = zf_u m31 63 3 (m31.1 a1 (Int32.toInt ((v4 + 5) + 3)).toNat) → ((0 ≤ (Int32.toInt ((v4 + 5) + 4)) ∧ (Int32.toInt ((v4 + 5) + 4)) < (n1 : Int)) ∧ (∀ m35, m35 = zf_u m33 63 6 (m33.1 a1 (Int32.toInt ((v4 + 5) + 4)).toNat) → ((0 ≤ (Int32.toInt ((v4 + 5) + 5)) ∧ (Int32.toInt ((v4 + 5) + 5)) < (n1 : Int)) ∧ (∀ m37, m37 = zf_u m35 63 10 (m35.1 a1 (Int32.toInt ((v4 + 5) + 5)).toNat) → ((0 ≤ (Int32.toInt ((v4 + 5) + 6)) ∧ (Int32.toInt ((v4 + 5) + 6)) < (n1 : Int)) ∧ (∀ m39, m39 = zf_u m37 63 11 (m37.1 a1 (Int32.toInt ((v4 + 5) + 6)).toNat) → ((0 ≤ (Int32.toInt ((v4 + 5) + 7)) ∧ (Int32.toInt ((v4 + 5) + 7)) < (n1 : Int)) ∧ (∀ m41, m41 = zf_u m39 63 12 (m39.1 a1 (Int32.toInt ((v4 + 5) + 7)).toNat) → Q m41))))))))))))))))))) ∧ (v5.toInt < 5 → ((v3.toInt = 0 → wp_147 v5 m (fun x43 m44 => ((0 ≤ (Int32.toInt (v4 + v5)) ∧ (Int32.toInt (v4 + v5)) < (n1 : Int)) ∧ ∀ m45, m45 = zf_u m44 a1 (Int32.toInt (v4 + v5)).toNat x43 → wq_161_82 a1 n1 v2 v3 Q n v4 (v5 + 1) m45))) ∧ (¬ v3.toInt = 0 → ((0 ≤ (Int32.toInt (v4 + v5)) ∧ (Int32.toInt (v4 + v5)) < (n1 : Int)) ∧ wp_148 v5 (m.1 a1 (Int32.toInt (v4 + v5)).toNat) m (fun m48 => wq_161_82 a1 n1 v2 v3 Q n v4 (v5 + 1) m48))))))
theorem zq_161_82 {d : Nat} (hd : 1 ≤ d) {a1 : Nat} {n1 : Nat} (hp1 : zf_arr a1 n1) {v2 : Int32} {v3 : Int32} {Q : zf_Me → Prop} : ∀ (n : Nat) (v4 : Int32) (v5 : Int32) (m : zf_Me), wq_161_82 a1 n1 v2 v3 Q n v4 v5 m → zf_W none 0 0 d zt_161 82 [some (.inr (.inr (1, 63))), some (.inr (.inr (1, a1))), none, some (.inl v3), some (.inl v4), some (.inl v5)] [] m (zf_O Q) := by
  obtain ⟨e, rfl⟩ : ∃ z, d = z + 1 := ⟨d - 1, by omega⟩
  intro n
  induction n with
  | zero =>
    intro v4 v5 m h
    exact h.elim
  | succ n ih =>
    intro v4 v5 m h
    unfold wq_161_82 at h
    refine zf_ld (pc' := 84) (v := .inl v5) dX8_all_82 rfl (fun _ _ _ => rfl) rfl rfl rfl ?_
    refine zf_ic (v := 5) (pc' := 85) dX8_all_84 rfl rfl ?_
    refine zf_icmp_ge (tgt := 127) (pc' := 88) dX8_all_85 rfl rfl (fun g => ?_) (fun g => ?_)
    · replace h := h.1 g
      refine zf_ii (y := (v4 + 5)) (L2 := [some (.inr (.inr (1, 63))), some (.inr (.inr (1, a1))), none, some (.inl v3), some (.inl (v4 + 5)), some (.inl v5)]) (pc' := 130) dX8_all_127 rfl rfl rfl rfl rfl ?_
      refine zf_ld (pc' := 131) (v := .inl v3) dX8_all_130 rfl (fun _ _ _ => rfl) rfl rfl rfl ?_
      refine zf_if_eq (tgt := 217) (pc' := 134) dX8_all_131 rfl rfl (fun g => ?_) (fun g => ?_)
      · replace h := h.1 g
        refine zf_ld (pc' := 218) (v := .inr (.inr (1, a1))) dX8_all_217 rfl (fun _ _ _ => rfl) rfl rfl rfl ?_
        refine zf_ld (pc' := 220) (v := .inl (v4 + 5)) dX8_all_218 rfl (fun _ _ _ => rfl) rfl rfl rfl ?_
        refine zf_ld (pc' := 221) (v := .inr (.inr (1, 63))) dX8_all_220 rfl (fun _ _ _ => rfl) rfl rfl rfl ?_
        refine zf_gfi (pc' := 224) dX8_all_221 rfl rfl (by decide) rfl rfl ?_
        refine zf_ias (pc' := 225) dX8_all_224 rfl hp1.1 hp1.2 h.1 rfl (fun m11 e12 => ?_)
        replace h := h.2 m11 e12
        refine zf_ld (pc' := 226) (v := .inr (.inr (1, a1))) dX8_all_225 rfl (fun _ _ _ => rfl) rfl rfl rfl ?_
        refine zf_ld (pc' := 228) (v := .inl (v4 + 5)) dX8_all_226 rfl (fun _ _ _ => rfl) rfl rfl rfl ?_
        refine zf_ic (v := 1) (pc' := 229) dX8_all_228 rfl rfl ?_
        refine zf_in (pc' := 230) (S' := [.inl ((v4 + 5) + 1), .inr (.inr (1, a1))]) dX8_all_229 rfl (fun _ _ _ => rfl) ?_
        refine zf_ld (pc' := 231) (v := .inr (.inr (1, 63))) dX8_all_230 rfl (fun _ _ _ => rfl) rfl rfl rfl ?_
        refine zf_gfi (pc' := 234) dX8_all_231 rfl rfl (by decide) rfl rfl ?_
        refine zf_ias (pc' := 235) dX8_all_234 rfl hp1.1 hp1.2 h.1 rfl (fun m13 e14 => ?_)
        replace h := h.2 m13 e14
        refine zf_ld (pc' := 236) (v := .inr (.inr (1, a1))) dX8_all_235 rfl (fun _ _ _ => rfl) rfl rfl rfl ?_
        refine zf_ld (pc' := 238) (v := .inl (v4 + 5)) dX8_all_236 rfl (fun _ _ _ => rfl) rfl rfl rfl ?_
        refine zf_ic (v := 2) (pc' := 239) dX8_all_238 rfl rfl ?_
        refine zf_in (pc' := 240) (S' := [.inl ((v4 + 5) + 2), .inr (.inr (1, a1))]) dX8_all_239 rfl (fun _ _ _ => rfl) ?_
        refine zf_ld (pc' := 241) (v := .inr (.inr (1, 63))) dX8_all_240 rfl (fun _ _ _ => rfl) rfl rfl rfl ?_
        refine zf_gfi (pc' := 244) dX8_all_241 rfl rfl (by decide) rfl rfl ?_
        refine zf_ias (pc' := 245) dX8_all_244 rfl hp1.1 hp1.2 h.1 rfl (fun m15 e16 => ?_)
        replace h := h.2 m15 e16
        refine zf_ld (pc' := 246) (v := .inr (.inr (1, a1))) dX8_all_245 rfl (fun _ _ _ => rfl) rfl rfl rfl ?_
        refine zf_ld (pc' := 248) (v := .inl (v4 + 5)) dX8_all_246 rfl (fun _ _ _ => rfl) rfl rfl rfl ?_
        refine zf_ic (v := 3) (pc' := 249) dX8_all_248 rfl rfl ?_
        refine zf_in (pc' := 250) (S' := [.inl ((v4 + 5) + 3), .inr (.inr (1, a1))]) dX8_all_249 rfl (fun _ _ _ => rfl) ?_
        refine zf_ld (pc' := 251) (v := .inr (.inr (1, 63))) dX8_all_250 rfl (fun _ _ _ => rfl) rfl rfl rfl ?_
        refine zf_gfi (pc' := 254) dX8_all_251 rfl rfl (by decide) rfl rfl ?_
        refine zf_ias (pc' := 255) dX8_all_254 rfl hp1.1 hp1.2 h.1 rfl (fun m17 e18 => ?_)
        replace h := h.2 m17 e18
        refine zf_ld (pc' := 256) (v := .inr (.inr (1, a1))) dX8_all_255 rfl (fun _ _ _ => rfl) rfl rfl rfl ?_
        refine zf_ld (pc' := 258) (v := .inl (v4 + 5)) dX8_all_256 rfl (fun _ _ _ => rfl) rfl rfl rfl ?_
        refine zf_ic (v := 4) (pc' := 259) dX8_all_258 rfl rfl ?_
        refine zf_in (pc' := 260) (S' := [.inl ((v4 + 5) + 4), .inr (.inr (1, a1))]) dX8_all_259 rfl (fun _ _ _ => rfl) ?_
        refine zf_ld (pc' := 261) (v := .inr (.inr (1, 63))) dX8_all_260 rfl (fun _ _ _ => rfl) rfl rfl rfl ?_
        refine zf_gfi (pc' := 264) dX8_all_261 rfl rfl (by decide) rfl rfl ?_
        refine zf_ias (pc' := 265) dX8_all_264 rfl hp1.1 hp1.2 h.1 rfl (fun m19 e20 => ?_)
        replace h := h.2 m19 e20
        refine zf_ld (pc' := 266) (v := .inr (.inr (1, a1))) dX8_all_265 rfl (fun _ _ _ => rfl) rfl rfl rfl ?_
        refine zf_ld (pc' := 268) (v := .inl (v4 + 5)) dX8_all_266 rfl (fun _ _ _ => rfl) rfl rfl rfl ?_
        refine zf_ic (v := 5) (pc' := 269) dX8_all_268 rfl rfl ?_
        refine zf_in (pc' := 270) (S' := [.inl ((v4 + 5) + 5), .inr (.inr (1, a1))]) dX8_all_269 rfl (fun _ _ _ => rfl) ?_
        refine zf_ld (pc' := 271) (v := .inr (.inr (1, 63))) dX8_all_270 rfl (fun _ _ _ => rfl) rfl rfl rfl ?_
        refine zf_gfi (pc' := 274) dX8_all_271 rfl rfl (by decide) rfl rfl ?_
        refine zf_ias (pc' := 275) dX8_all_274 rfl hp1.1 hp1.2 h.1 rfl (fun m21 e22 => ?_)
        replace h := h.2 m21 e22
        refine zf_ld (pc' := 276) (v := .inr (.inr (1, a1))) dX8_all_275 rfl (fun _ _ _ => rfl) rfl rfl rfl ?_
        refine zf_ld (pc' := 278) (v := .inl (v4 + 5)) dX8_all_276 rfl (fun _ _ _ => rfl) rfl rfl rfl ?_
        refine zf_bi (v := 6) (pc' := 280) dX8_all_278 rfl rfl ?_
        refine zf_in (pc' := 281) (S' := [.inl ((v4 + 5) + 6), .inr (.inr (1, a1))]) dX8_all_280 rfl (fun _ _ _ => rfl) ?_
        refine zf_ld (pc' := 282) (v := .inr (.inr (1, 63))) dX8_all_281 rfl (fun _ _ _ => rfl) rfl rfl rfl ?_
        refine zf_gfi (pc' := 285) dX8_all_282 rfl rfl (by decide) rfl rfl ?_
        refine zf_ias (pc' := 286) dX8_all_285 rfl hp1.1 hp1.2 h.1 rfl (fun m23 e24 => ?_)
        replace h := h.2 m23 e24
        refine zf_ld (pc' := 287) (v := .inr (.inr (1, a1))) dX8_all_286 rfl (fun _ _ _ => rfl) rfl rfl rfl ?_
        refine zf_ld (pc' := 289) (v := .inl (v4 + 5)) dX8_all_287 rfl (fun _ _ _ => rfl) rfl rfl rfl ?_
        refine zf_bi (v := 7) (pc' := 291) dX8_all_289 rfl rfl ?_
        refine zf_in (pc' := 292) (S' := [.inl ((v4 + 5) + 7), .inr (.inr (1, a1))]) dX8_all_291 rfl (fun _ _ _ => rfl) ?_
        refine zf_ld (pc' := 293) (v := .inr (.inr (1, 63))) dX8_all_292 rfl (fun _ _ _ => rfl) rfl rfl rfl ?_
        refine zf_gfi (pc' := 296) dX8_all_293 rfl rfl (by decide) rfl rfl ?_
        refine zf_ias (pc' := 297) dX8_all_296 rfl hp1.1 hp1.2 h.1 rfl (fun m25 e26 => ?_)
        replace h := h.2 m25 e26
        exact zf_rv dX8_all_297 rfl h
      · replace h := h.2 g
        refine zf_ld (pc' := 135) (v := .inr (.inr (1, 63))) dX8_all_134 rfl (fun _ _ _ => rfl) rfl rfl rfl ?_
        refine zf_ld (pc' := 136) (v := .inr (.inr (1, a1))) dX8_all_135 rfl (fun _ _ _ => rfl) rfl rfl rfl ?_
        refine zf_ld (pc' := 138) (v := .inl (v4 + 5)) dX8_all_136 rfl (fun _ _ _ => rfl) rfl rfl rfl ?_
        refine zf_ial (pc' := 139) dX8_all_138 rfl hp1.1 hp1.2 h.1 rfl ?_
        replace h := h.2
        refine zf_pf (pc' := 142) dX8_all_139 rfl rfl (by decide) rfl rfl rfl (fun m27 e28 => ?_)
        replace h := h m27 e28
        refine zf_ld (pc' := 143) (v := .inr (.inr (1, 63))) dX8_all_142 rfl (fun _ _ _ => rfl) rfl rfl rfl ?_
        refine zf_ld (pc' := 144) (v := .inr (.inr (1, a1))) dX8_all_143 rfl (fun _ _ _ => rfl) rfl rfl rfl ?_
        refine zf_ld (pc' := 146) (v := .inl (v4 + 5)) dX8_all_144 rfl (fun _ _ _ => rfl) rfl rfl rfl ?_
        refine zf_ic (v := 1) (pc' := 147) dX8_all_146 rfl rfl ?_
        refine zf_in (pc' := 148) (S' := [.inl ((v4 + 5) + 1), .inr (.inr (1, a1)), .inr (.inr (1, 63))]) dX8_all_147 rfl (fun _ _ _ => rfl) ?_
        refine zf_ial (pc' := 149) dX8_all_148 rfl hp1.1 hp1.2 h.1 rfl ?_
        replace h := h.2
        refine zf_pf (pc' := 152) dX8_all_149 rfl rfl (by decide) rfl rfl rfl (fun m29 e30 => ?_)
        replace h := h m29 e30
        refine zf_ld (pc' := 153) (v := .inr (.inr (1, 63))) dX8_all_152 rfl (fun _ _ _ => rfl) rfl rfl rfl ?_
        refine zf_ld (pc' := 154) (v := .inr (.inr (1, a1))) dX8_all_153 rfl (fun _ _ _ => rfl) rfl rfl rfl ?_
        refine zf_ld (pc' := 156) (v := .inl (v4 + 5)) dX8_all_154 rfl (fun _ _ _ => rfl) rfl rfl rfl ?_
        refine zf_ic (v := 2) (pc' := 157) dX8_all_156 rfl rfl ?_
        refine zf_in (pc' := 158) (S' := [.inl ((v4 + 5) + 2), .inr (.inr (1, a1)), .inr (.inr (1, 63))]) dX8_all_157 rfl (fun _ _ _ => rfl) ?_
        refine zf_ial (pc' := 159) dX8_all_158 rfl hp1.1 hp1.2 h.1 rfl ?_
        replace h := h.2
        refine zf_pf (pc' := 162) dX8_all_159 rfl rfl (by decide) rfl rfl rfl (fun m31 e32 => ?_)
        replace h := h m31 e32
        refine zf_ld (pc' := 163) (v := .inr (.inr (1, 63))) dX8_all_162 rfl (fun _ _ _ => rfl) rfl rfl rfl ?_
        refine zf_ld (pc' := 164) (v := .inr (.inr (1, a1))) dX8_all_163 rfl (fun _ _ _ => rfl) rfl rfl rfl ?_
        refine zf_ld (pc' := 166) (v := .inl (v4 + 5)) dX8_all_164 rfl (fun _ _ _ => rfl) rfl rfl rfl ?_
        refine zf_ic (v := 3) (pc' := 167) dX8_all_166 rfl rfl ?_
        refine zf_in (pc' := 168) (S' := [.inl ((v4 + 5) + 3), .inr (.inr (1, a1)), .inr (.inr (1, 63))]) dX8_all_167 rfl (fun _ _ _ => rfl) ?_
        refine zf_ial (pc' := 169) dX8_all_168 rfl hp1.1 hp1.2 h.1 rfl ?_
        replace h := h.2
        refine zf_pf (pc' := 172) dX8_all_169 rfl rfl (by decide) rfl rfl rfl (fun m33 e34 => ?_)
        replace h := h m33 e34
        refine zf_ld (pc' := 173) (v := .inr (.inr (1, 63))) dX8_all_172 rfl (fun _ _ _ => rfl) rfl rfl rfl ?_
        refine zf_ld (pc' := 174) (v := .inr (.inr (1, a1))) dX8_all_173 rfl (fun _ _ _ => rfl) rfl rfl rfl ?_
        refine zf_ld (pc' := 176) (v := .inl (v4 + 5)) dX8_all_174 rfl (fun _ _ _ => rfl) rfl rfl rfl ?_
        refine zf_ic (v := 4) (pc' := 177) dX8_all_176 rfl rfl ?_
        refine zf_in (pc' := 178) (S' := [.inl ((v4 + 5) + 4), .inr (.inr (1, a1)), .inr (.inr (1, 63))]) dX8_all_177 rfl (fun _ _ _ => rfl) ?_
        refine zf_ial (pc' := 179) dX8_all_178 rfl hp1.1 hp1.2 h.1 rfl ?_
        replace h := h.2
        refine zf_pf (pc' := 182) dX8_all_179 rfl rfl (by decide) rfl rfl rfl (fun m35 e36 => ?_)
        replace h := h m35 e36
        refine zf_ld (pc' := 183) (v := .inr (.inr (1, 63))) dX8_all_182 rfl (fun _ _ _ => rfl) rfl rfl rfl ?_
        refine zf_ld (pc' := 184) (v := .inr (.inr (1, a1))) dX8_all_183 rfl (fun _ _ _ => rfl) rfl rfl rfl ?_
        refine zf_ld (pc' := 186) (v := .inl (v4 + 5)) dX8_all_184 rfl (fun _ _ _ => rfl) rfl rfl rfl ?_
        refine zf_ic (v := 5) (pc' := 187) dX8_all_186 rfl rfl ?_
        refine zf_in (pc' := 188) (S' := [.inl ((v4 + 5) + 5), .inr (.inr (1, a1)), .inr (.inr (1, 63))]) dX8_all_187 rfl (fun _ _ _ => rfl) ?_
        refine zf_ial (pc' := 189) dX8_all_188 rfl hp1.1 hp1.2 h.1 rfl ?_
        replace h := h.2
        refine zf_pf (pc' := 192) dX8_all_189 rfl rfl (by decide) rfl rfl rfl (fun m37 e38 => ?_)
        replace h := h m37 e38
        refine zf_ld (pc' := 193) (v := .inr (.inr (1, 63))) dX8_all_192 rfl (fun _ _ _ => rfl) rfl rfl rfl ?_
        refine zf_ld (pc' := 194) (v := .inr (.inr (1, a1))) dX8_all_193 rfl (fun _ _ _ => rfl) rfl rfl rfl ?_
        refine zf_ld (pc' := 196) (v := .inl (v4 + 5)) dX8_all_194 rfl (fun _ _ _ => rfl) rfl rfl rfl ?_
        refine zf_bi (v := 6) (pc' := 198) dX8_all_196 rfl rfl ?_
        refine zf_in (pc' := 199) (S' := [.inl ((v4 + 5) + 6), .inr (.inr (1, a1)), .inr (.inr (1, 63))]) dX8_all_198 rfl (fun _ _ _ => rfl) ?_
        refine zf_ial (pc' := 200) dX8_all_199 rfl hp1.1 hp1.2 h.1 rfl ?_
        replace h := h.2
        refine zf_pf (pc' := 203) dX8_all_200 rfl rfl (by decide) rfl rfl rfl (fun m39 e40 => ?_)
        replace h := h m39 e40
        refine zf_ld (pc' := 204) (v := .inr (.inr (1, 63))) dX8_all_203 rfl (fun _ _ _ => rfl) rfl rfl rfl ?_
        refine zf_ld (pc' := 205) (v := .inr (.inr (1, a1))) dX8_all_204 rfl (fun _ _ _ => rfl) rfl rfl rfl ?_
        refine zf_ld (pc' := 207) (v := .inl (v4 + 5)) dX8_all_205 rfl (fun _ _ _ => rfl) rfl rfl rfl ?_
        refine zf_bi (v := 7) (pc' := 209) dX8_all_207 rfl rfl ?_
        refine zf_in (pc' := 210) (S' := [.inl ((v4 + 5) + 7), .inr (.inr (1, a1)), .inr (.inr (1, 63))]) dX8_all_209 rfl (fun _ _ _ => rfl) ?_
        refine zf_ial (pc' := 211) dX8_all_210 rfl hp1.1 hp1.2 h.1 rfl ?_
        replace h := h.2
        refine zf_pf (pc' := 214) dX8_all_211 rfl rfl (by decide) rfl rfl rfl (fun m41 e42 => ?_)
        replace h := h m41 e42
        refine zf_goto (tgt := 297) dX8_all_214 rfl ?_
        exact zf_rv dX8_all_297 rfl h
    · replace h := h.2 g
      refine zf_ld (pc' := 89) (v := .inl v3) dX8_all_88 rfl (fun _ _ _ => rfl) rfl rfl rfl ?_
      refine zf_if_eq (tgt := 108) (pc' := 92) dX8_all_89 rfl rfl (fun g => ?_) (fun g => ?_)
      · replace h := h.1 g
        refine zf_ld (pc' := 109) (v := .inr (.inr (1, a1))) dX8_all_108 rfl (fun _ _ _ => rfl) rfl rfl rfl ?_
        refine zf_ld (pc' := 111) (v := .inl v4) dX8_all_109 rfl (fun _ _ _ => rfl) rfl rfl rfl ?_
        refine zf_ld (pc' := 113) (v := .inl v5) dX8_all_111 rfl (fun _ _ _ => rfl) rfl rfl rfl ?_
        refine zf_in (pc' := 114) (S' := [.inl (v4 + v5), .inr (.inr (1, a1))]) dX8_all_113 rfl (fun _ _ _ => rfl) ?_
        refine zf_ld (pc' := 115) (v := .inr (.inr (1, 63))) dX8_all_114 rfl (fun _ _ _ => rfl) rfl rfl rfl ?_
        refine zf_ld (pc' := 117) (v := .inl v5) dX8_all_115 rfl (fun _ _ _ => rfl) rfl rfl rfl ?_
        refine zf_iv (k := 147) (pc' := 120) (r := [.inl (v4 + v5), .inr (.inr (1, a1))]) dX8_all_117 rfl rfl rfl rfl (by decide) rfl rfl rfl (zr_147 (by omega) h) (zf_kI (fun x43 m44 h => ?_))
        refine zf_ias (pc' := 121) dX8_all_120 rfl hp1.1 hp1.2 h.1 rfl (fun m45 e46 => ?_)
        replace h := h.2 m45 e46
        refine zf_ii (y := (v5 + 1)) (L2 := [some (.inr (.inr (1, 63))), some (.inr (.inr (1, a1))), none, some (.inl v3), some (.inl v4), some (.inl (v5 + 1))]) (pc' := 124) dX8_all_121 rfl rfl rfl rfl rfl ?_
        refine zf_goto (tgt := 82) dX8_all_124 rfl ?_
        exact zf_lo (ih _ _ _ h) ⟨rfl, rfl, rfl, rfl, rfl, trivial⟩
      · replace h := h.2 g
        refine zf_ld (pc' := 93) (v := .inr (.inr (1, 63))) dX8_all_92 rfl (fun _ _ _ => rfl) rfl rfl rfl ?_
        refine zf_ld (pc' := 95) (v := .inl v5) dX8_all_93 rfl (fun _ _ _ => rfl) rfl rfl rfl ?_
        refine zf_ld (pc' := 96) (v := .inr (.inr (1, a1))) dX8_all_95 rfl (fun _ _ _ => rfl) rfl rfl rfl ?_
        refine zf_ld (pc' := 98) (v := .inl v4) dX8_all_96 rfl (fun _ _ _ => rfl) rfl rfl rfl ?_
        refine zf_ld (pc' := 100) (v := .inl v5) dX8_all_98 rfl (fun _ _ _ => rfl) rfl rfl rfl ?_
        refine zf_in (pc' := 101) (S' := [.inl (v4 + v5), .inr (.inr (1, a1)), .inl v5, .inr (.inr (1, 63))]) dX8_all_100 rfl (fun _ _ _ => rfl) ?_
        refine zf_ial (pc' := 102) dX8_all_101 rfl hp1.1 hp1.2 h.1 rfl ?_
        replace h := h.2
        refine zf_iv (k := 148) (pc' := 105) (r := []) dX8_all_102 rfl rfl rfl rfl (by decide) rfl rfl rfl (zr_148 (by omega) h) (zf_kO (fun m48 h => ?_))
        refine zf_goto (tgt := 121) dX8_all_105 rfl ?_
        refine zf_ii (y := (v5 + 1)) (L2 := [some (.inr (.inr (1, 63))), some (.inr (.inr (1, a1))), none, some (.inl v3), some (.inl v4), some (.inl (v5 + 1))]) (pc' := 124) dX8_all_121 rfl rfl rfl rfl rfl ?_
        refine zf_goto (tgt := 82) dX8_all_124 rfl ?_
        exact zf_lo (ih _ _ _ h) ⟨rfl, rfl, rfl, rfl, rfl, trivial⟩
def wp_161 (a1 : Nat) (n1 : Nat) (v2 : Int32) (v3 : Int32) (m : zf_Me) (Q : zf_Me → Prop) : Prop := wp_160 65 24 a1 n1 24 v2 v3 m (fun x1 m2 => wp_160 66 24 a1 n1 24 x1 v3 m2 (fun x3 m4 => wp_160 67 6 a1 n1 6 x3 v3 m4 (fun x5 m6 => wp_160 68 6 a1 n1 6 x5 v3 m6 (fun x7 m8 => wp_160 69 6 a1 n1 6 x7 v3 m8 (fun x9 m10 => (∃ n82, wq_161_82 a1 n1 v2 v3 Q n82 x9 0 m10))))))
theorem zr_161 {d : Nat} (hd : 1 ≤ d) {a1 : Nat} {n1 : Nat} (hp1 : zf_arr a1 n1) {v2 : Int32} {v3 : Int32} {Q : zf_Me → Prop} {m : zf_Me} (h : wp_161 a1 n1 v2 v3 m Q) : zf_M d 161 [.inr (.inr (1, 63)), .inr (.inr (1, a1)), .inl v2, .inl v3] m (zf_O Q) := by
  obtain ⟨e, rfl⟩ : ∃ z, d = z + 1 := ⟨d - 1, by omega⟩
  unfold wp_161 at h
  refine zf_M_of (Nat.le_of_ble_eq_true rfl) zm_161 (L := [some (.inr (.inr (1, 63))), some (.inr (.inr (1, a1))), some (.inl v2), some (.inl v3), none, none]) rfl ?_
  refine zf_ld (pc' := 1) (v := .inr (.inr (1, 63))) dX8_all_0 rfl (fun _ _ _ => rfl) rfl rfl rfl ?_
  refine zf_ld (pc' := 2) (v := .inr (.inr (1, 63))) dX8_all_1 rfl (fun _ _ _ => rfl) rfl rfl rfl ?_
  refine zf_gfr (pc' := 5) (b := 65) dX8_all_2 rfl rfl (by decide) rfl rfl ?_
  refine zf_bi (v := 24) (pc' := 7) dX8_all_5 rfl rfl ?_
  refine zf_ld (pc' := 8) (v := .inr (.inr (1, a1))) dX8_all_7 rfl (fun _ _ _ => rfl) rfl rfl rfl ?_
  refine zf_ld (pc' := 9) (v := .inl v2) dX8_all_8 rfl (fun _ _ _ => rfl) rfl rfl rfl ?_
  refine zf_ld (pc' := 10) (v := .inl v3) dX8_all_9 rfl (fun _ _ _ => rfl) rfl rfl rfl ?_
  refine zf_iv (k := 160) (pc' := 13) (r := []) dX8_all_10 rfl rfl rfl rfl (by decide) rfl rfl rfl (zr_160 (by omega) (⟨by decide, rfl⟩ : zf_arr 65 24) hp1 h) (zf_kI (fun x1 m2 h => ?_))
  refine zf_st (pc' := 15) (L2 := [some (.inr (.inr (1, 63))), some (.inr (.inr (1, a1))), some (.inl v2), some (.inl v3), some (.inl x1), none]) dX8_all_13 rfl (fun _ _ _ => rfl) rfl rfl rfl rfl rfl rfl ?_
  refine zf_ld (pc' := 16) (v := .inr (.inr (1, 63))) dX8_all_15 rfl (fun _ _ _ => rfl) rfl rfl rfl ?_
  refine zf_ld (pc' := 17) (v := .inr (.inr (1, 63))) dX8_all_16 rfl (fun _ _ _ => rfl) rfl rfl rfl ?_
  refine zf_gfr (pc' := 20) (b := 66) dX8_all_17 rfl rfl (by decide) rfl rfl ?_
  refine zf_bi (v := 24) (pc' := 22) dX8_all_20 rfl rfl ?_
  refine zf_ld (pc' := 23) (v := .inr (.inr (1, a1))) dX8_all_22 rfl (fun _ _ _ => rfl) rfl rfl rfl ?_
  refine zf_ld (pc' := 25) (v := .inl x1) dX8_all_23 rfl (fun _ _ _ => rfl) rfl rfl rfl ?_
  refine zf_ld (pc' := 26) (v := .inl v3) dX8_all_25 rfl (fun _ _ _ => rfl) rfl rfl rfl ?_
  refine zf_iv (k := 160) (pc' := 29) (r := []) dX8_all_26 rfl rfl rfl rfl (by decide) rfl rfl rfl (zr_160 (by omega) (⟨by decide, rfl⟩ : zf_arr 66 24) hp1 h) (zf_kI (fun x3 m4 h => ?_))
  refine zf_st (pc' := 31) (L2 := [some (.inr (.inr (1, 63))), some (.inr (.inr (1, a1))), some (.inl v2), some (.inl v3), some (.inl x3), none]) dX8_all_29 rfl (fun _ _ _ => rfl) rfl rfl rfl rfl rfl rfl ?_
  refine zf_ld (pc' := 32) (v := .inr (.inr (1, 63))) dX8_all_31 rfl (fun _ _ _ => rfl) rfl rfl rfl ?_
  refine zf_ld (pc' := 33) (v := .inr (.inr (1, 63))) dX8_all_32 rfl (fun _ _ _ => rfl) rfl rfl rfl ?_
  refine zf_gfr (pc' := 36) (b := 67) dX8_all_33 rfl rfl (by decide) rfl rfl ?_
  refine zf_bi (v := 6) (pc' := 38) dX8_all_36 rfl rfl ?_
  refine zf_ld (pc' := 39) (v := .inr (.inr (1, a1))) dX8_all_38 rfl (fun _ _ _ => rfl) rfl rfl rfl ?_
  refine zf_ld (pc' := 41) (v := .inl x3) dX8_all_39 rfl (fun _ _ _ => rfl) rfl rfl rfl ?_
  refine zf_ld (pc' := 42) (v := .inl v3) dX8_all_41 rfl (fun _ _ _ => rfl) rfl rfl rfl ?_
  refine zf_iv (k := 160) (pc' := 45) (r := []) dX8_all_42 rfl rfl rfl rfl (by decide) rfl rfl rfl (zr_160 (by omega) (⟨by decide, rfl⟩ : zf_arr 67 6) hp1 h) (zf_kI (fun x5 m6 h => ?_))
  refine zf_st (pc' := 47) (L2 := [some (.inr (.inr (1, 63))), some (.inr (.inr (1, a1))), some (.inl v2), some (.inl v3), some (.inl x5), none]) dX8_all_45 rfl (fun _ _ _ => rfl) rfl rfl rfl rfl rfl rfl ?_
  refine zf_ld (pc' := 48) (v := .inr (.inr (1, 63))) dX8_all_47 rfl (fun _ _ _ => rfl) rfl rfl rfl ?_
  refine zf_ld (pc' := 49) (v := .inr (.inr (1, 63))) dX8_all_48 rfl (fun _ _ _ => rfl) rfl rfl rfl ?_
  refine zf_gfr (pc' := 52) (b := 68) dX8_all_49 rfl rfl (by decide) rfl rfl ?_
  refine zf_bi (v := 6) (pc' := 54) dX8_all_52 rfl rfl ?_
  refine zf_ld (pc' := 55) (v := .inr (.inr (1, a1))) dX8_all_54 rfl (fun _ _ _ => rfl) rfl rfl rfl ?_
  refine zf_ld (pc' := 57) (v := .inl x5) dX8_all_55 rfl (fun _ _ _ => rfl) rfl rfl rfl ?_
  refine zf_ld (pc' := 58) (v := .inl v3) dX8_all_57 rfl (fun _ _ _ => rfl) rfl rfl rfl ?_
  refine zf_iv (k := 160) (pc' := 61) (r := []) dX8_all_58 rfl rfl rfl rfl (by decide) rfl rfl rfl (zr_160 (by omega) (⟨by decide, rfl⟩ : zf_arr 68 6) hp1 h) (zf_kI (fun x7 m8 h => ?_))
  refine zf_st (pc' := 63) (L2 := [some (.inr (.inr (1, 63))), some (.inr (.inr (1, a1))), some (.inl v2), some (.inl v3), some (.inl x7), none]) dX8_all_61 rfl (fun _ _ _ => rfl) rfl rfl rfl rfl rfl rfl ?_
  refine zf_ld (pc' := 64) (v := .inr (.inr (1, 63))) dX8_all_63 rfl (fun _ _ _ => rfl) rfl rfl rfl ?_
  refine zf_ld (pc' := 65) (v := .inr (.inr (1, 63))) dX8_all_64 rfl (fun _ _ _ => rfl) rfl rfl rfl ?_
  refine zf_gfr (pc' := 68) (b := 69) dX8_all_65 rfl rfl (by decide) rfl rfl ?_
  refine zf_bi (v := 6) (pc' := 70) dX8_all_68 rfl rfl ?_
  refine zf_ld (pc' := 71) (v := .inr (.inr (1, a1))) dX8_all_70 rfl (fun _ _ _ => rfl) rfl rfl rfl ?_
  refine zf_ld (pc' := 73) (v := .inl x7) dX8_all_71 rfl (fun _ _ _ => rfl) rfl rfl rfl ?_
  refine zf_ld (pc' := 74) (v := .inl v3) dX8_all_73 rfl (fun _ _ _ => rfl) rfl rfl rfl ?_
  refine zf_iv (k := 160) (pc' := 77) (r := []) dX8_all_74 rfl rfl rfl rfl (by decide) rfl rfl rfl (zr_160 (by omega) (⟨by decide, rfl⟩ : zf_arr 69 6) hp1 h) (zf_kI (fun x9 m10 h => ?_))
  refine zf_st (pc' := 79) (L2 := [some (.inr (.inr (1, 63))), some (.inr (.inr (1, a1))), some (.inl v2), some (.inl v3), some (.inl x9), none]) dX8_all_77 rfl (fun _ _ _ => rfl) rfl rfl rfl rfl rfl rfl ?_
  refine zf_ic (v := 0) (pc' := 80) dX8_all_79 rfl rfl ?_
  refine zf_st (pc' := 82) (L2 := [some (.inr (.inr (1, 63))), some (.inr (.inr (1, a1))), some (.inl v2), some (.inl v3), some (.inl x9), some (.inl 0)]) dX8_all_80 rfl (fun _ _ _ => rfl) rfl rfl rfl rfl rfl rfl ?_
  obtain ⟨n82, h⟩ := h
  exact zf_lo (zq_161_82 (by omega) hp1 n82 _ _ _ h) ⟨rfl, rfl, rfl, rfl, rfl, trivial⟩
end
section
/-! part 40: methods 162..: laid by wip/flat/dec.py -/
def zt_162 : zx_MT := (8, yX8_way, cX8_way, 5, (some FieldType.int), 1, 0)
theorem zm_162 : zx_m 162 = zt_162 := rfl
theorem dX8_way_r0 : zdcP cX8_way 0 [(.aload_n 0, 1), (.iload_n 1, 1), (.invokevirtual 130, 3), (.istore_n 2, 1), (.iload_n 2, 1), (.ifCond .eq 9, 3), (.aload_n 0, 1), (.iload_n 2, 1), (.invokevirtual 115, 3), (.ireturn, 1), (.aload_n 0, 1), (.aload_n 0, 1), (.getfield 84, 3), (.iconst 0, 1), (.iconst 0, 1), (.invokevirtual 213, 3)] := zdcA_ok (by decide +kernel)
theorem dX8_way_0 : decode cX8_way 0 = .ok (.aload_n 0, 1) := dX8_way_r0.1
theorem dX8_way_1 : decode cX8_way 1 = .ok (.iload_n 1, 1) := dX8_way_r0.2.1
theorem dX8_way_2 : decode cX8_way 2 = .ok (.invokevirtual 130, 3) := dX8_way_r0.2.2.1
theorem dX8_way_5 : decode cX8_way 5 = .ok (.istore_n 2, 1) := dX8_way_r0.2.2.2.1
theorem dX8_way_6 : decode cX8_way 6 = .ok (.iload_n 2, 1) := dX8_way_r0.2.2.2.2.1
theorem dX8_way_7 : decode cX8_way 7 = .ok (.ifCond .eq 9, 3) := dX8_way_r0.2.2.2.2.2.1
theorem dX8_way_10 : decode cX8_way 10 = .ok (.aload_n 0, 1) := dX8_way_r0.2.2.2.2.2.2.1
theorem dX8_way_11 : decode cX8_way 11 = .ok (.iload_n 2, 1) := dX8_way_r0.2.2.2.2.2.2.2.1
theorem dX8_way_12 : decode cX8_way 12 = .ok (.invokevirtual 115, 3) := dX8_way_r0.2.2.2.2.2.2.2.2.1
theorem dX8_way_15 : decode cX8_way 15 = .ok (.ireturn, 1) := dX8_way_r0.2.2.2.2.2.2.2.2.2.1
theorem dX8_way_16 : decode cX8_way 16 = .ok (.aload_n 0, 1) := dX8_way_r0.2.2.2.2.2.2.2.2.2.2.1
theorem dX8_way_17 : decode cX8_way 17 = .ok (.aload_n 0, 1) := dX8_way_r0.2.2.2.2.2.2.2.2.2.2.2.1
theorem dX8_way_18 : decode cX8_way 18 = .ok (.getfield 84, 3) := dX8_way_r0.2.2.2.2.2.2.2.2.2.2.2.2.1
theorem dX8_way_21 : decode cX8_way 21 = .ok (.iconst 0, 1) := dX8_way_r0.2.2.2.2.2.2.2.2.2.2.2.2.2.1
theorem dX8_way_22 : decode cX8_way 22 = .ok (.iconst 0, 1) := dX8_way_r0.2.2.2.2.2.2.2.2.2.2.2.2.2.2.1
theorem dX8_way_23 : decode cX8_way 23 = .ok (.invokevirtual 213, 3) := dX8_way_r0.2.2.2.2.2.2.2.2.2.2.2.2.2.2.2.1
theorem dX8_way_r26 : zdcP cX8_way 26 [(.aload_n 0, 1), (.sipush 160, 3), (.iload_n 1, 1), (.imul, 1), (.putfield 168, 3), (.aload_n 0, 1), (.iconst 0, 1), (.putfield 162, 3), (.aload_n 0, 1), (.aload_n 0, 1), (.getfield 62, 3), (.iload_n 1, 1), (.iaload, 1), (.putfield 165, 3), (.aload_n 0, 1), (.iconst (-1), 1)] := zdcA_ok (by decide +kernel)
theorem dX8_way_26 : decode cX8_way 26 = .ok (.aload_n 0, 1) := dX8_way_r26.1
theorem dX8_way_27 : decode cX8_way 27 = .ok (.sipush 160, 3) := dX8_way_r26.2.1
theorem dX8_way_30 : decode cX8_way 30 = .ok (.iload_n 1, 1) := dX8_way_r26.2.2.1
theorem dX8_way_31 : decode cX8_way 31 = .ok (.imul, 1) := dX8_way_r26.2.2.2.1
theorem dX8_way_32 : decode cX8_way 32 = .ok (.putfield 168, 3) := dX8_way_r26.2.2.2.2.1
theorem dX8_way_35 : decode cX8_way 35 = .ok (.aload_n 0, 1) := dX8_way_r26.2.2.2.2.2.1
theorem dX8_way_36 : decode cX8_way 36 = .ok (.iconst 0, 1) := dX8_way_r26.2.2.2.2.2.2.1
theorem dX8_way_37 : decode cX8_way 37 = .ok (.putfield 162, 3) := dX8_way_r26.2.2.2.2.2.2.2.1
theorem dX8_way_40 : decode cX8_way 40 = .ok (.aload_n 0, 1) := dX8_way_r26.2.2.2.2.2.2.2.2.1
theorem dX8_way_41 : decode cX8_way 41 = .ok (.aload_n 0, 1) := dX8_way_r26.2.2.2.2.2.2.2.2.2.1
theorem dX8_way_42 : decode cX8_way 42 = .ok (.getfield 62, 3) := dX8_way_r26.2.2.2.2.2.2.2.2.2.2.1
theorem dX8_way_45 : decode cX8_way 45 = .ok (.iload_n 1, 1) := dX8_way_r26.2.2.2.2.2.2.2.2.2.2.2.1
theorem dX8_way_46 : decode cX8_way 46 = .ok (.iaload, 1) := dX8_way_r26.2.2.2.2.2.2.2.2.2.2.2.2.1
theorem dX8_way_47 : decode cX8_way 47 = .ok (.putfield 165, 3) := dX8_way_r26.2.2.2.2.2.2.2.2.2.2.2.2.2.1
theorem dX8_way_50 : decode cX8_way 50 = .ok (.aload_n 0, 1) := dX8_way_r26.2.2.2.2.2.2.2.2.2.2.2.2.2.2.1
theorem dX8_way_51 : decode cX8_way 51 = .ok (.iconst (-1), 1) := dX8_way_r26.2.2.2.2.2.2.2.2.2.2.2.2.2.2.2.1
theorem dX8_way_r52 : zdcP cX8_way 52 [(.putfield 34, 3), (.iconst 1, 1), (.istore_n 3, 1), (.aload_n 0, 1), (.invokevirtual 217, 3), (.istore 4, 2), (.iload 4, 2), (.ifCond .eq 69, 3), (.aload_n 0, 1), (.getfield 162, 3), (.aload_n 0, 1), (.getfield 165, 3), (.if_icmp .ge 58, 3), (.aload_n 0, 1), (.getfield 68, 3), (.aload_n 0, 1)] := zdcA_ok (by decide +kernel)
theorem dX8_way_52 : decode cX8_way 52 = .ok (.putfield 34, 3) := dX8_way_r52.1
theorem dX8_way_55 : decode cX8_way 55 = .ok (.iconst 1, 1) := dX8_way_r52.2.1
theorem dX8_way_56 : decode cX8_way 56 = .ok (.istore_n 3, 1) := dX8_way_r52.2.2.1
theorem dX8_way_57 : decode cX8_way 57 = .ok (.aload_n 0, 1) := dX8_way_r52.2.2.2.1
theorem dX8_way_58 : decode cX8_way 58 = .ok (.invokevirtual 217, 3) := dX8_way_r52.2.2.2.2.1
theorem dX8_way_61 : decode cX8_way 61 = .ok (.istore 4, 2) := dX8_way_r52.2.2.2.2.2.1
theorem dX8_way_63 : decode cX8_way 63 = .ok (.iload 4, 2) := dX8_way_r52.2.2.2.2.2.2.1
theorem dX8_way_65 : decode cX8_way 65 = .ok (.ifCond .eq 69, 3) := dX8_way_r52.2.2.2.2.2.2.2.1
theorem dX8_way_68 : decode cX8_way 68 = .ok (.aload_n 0, 1) := dX8_way_r52.2.2.2.2.2.2.2.2.1
theorem dX8_way_69 : decode cX8_way 69 = .ok (.getfield 162, 3) := dX8_way_r52.2.2.2.2.2.2.2.2.2.1
theorem dX8_way_72 : decode cX8_way 72 = .ok (.aload_n 0, 1) := dX8_way_r52.2.2.2.2.2.2.2.2.2.2.1
theorem dX8_way_73 : decode cX8_way 73 = .ok (.getfield 165, 3) := dX8_way_r52.2.2.2.2.2.2.2.2.2.2.2.1
theorem dX8_way_76 : decode cX8_way 76 = .ok (.if_icmp .ge 58, 3) := dX8_way_r52.2.2.2.2.2.2.2.2.2.2.2.2.1
theorem dX8_way_79 : decode cX8_way 79 = .ok (.aload_n 0, 1) := dX8_way_r52.2.2.2.2.2.2.2.2.2.2.2.2.2.1
theorem dX8_way_80 : decode cX8_way 80 = .ok (.getfield 68, 3) := dX8_way_r52.2.2.2.2.2.2.2.2.2.2.2.2.2.2.1
theorem dX8_way_83 : decode cX8_way 83 = .ok (.aload_n 0, 1) := dX8_way_r52.2.2.2.2.2.2.2.2.2.2.2.2.2.2.2.1
theorem dX8_way_r84 : zdcP cX8_way 84 [(.getfield 168, 3), (.aload_n 0, 1), (.getfield 162, 3), (.iadd, 1), (.laload, 1), (.l2i, 1), (.bipush 59, 2), (.if_icmp .eq 16, 3), (.aload_n 0, 1), (.aload_n 0, 1), (.getfield 162, 3), (.invokevirtual 177, 3), (.istore 4, 2), (.goto (-46), 3), (.aload_n 0, 1), (.dup, 1)] := zdcA_ok (by decide +kernel)
theorem dX8_way_84 : decode cX8_way 84 = .ok (.getfield 168, 3) := dX8_way_r84.1
theorem dX8_way_87 : decode cX8_way 87 = .ok (.aload_n 0, 1) := dX8_way_r84.2.1
theorem dX8_way_88 : decode cX8_way 88 = .ok (.getfield 162, 3) := dX8_way_r84.2.2.1
theorem dX8_way_91 : decode cX8_way 91 = .ok (.iadd, 1) := dX8_way_r84.2.2.2.1
theorem dX8_way_92 : decode cX8_way 92 = .ok (.laload, 1) := dX8_way_r84.2.2.2.2.1
theorem dX8_way_93 : decode cX8_way 93 = .ok (.l2i, 1) := dX8_way_r84.2.2.2.2.2.1
theorem dX8_way_94 : decode cX8_way 94 = .ok (.bipush 59, 2) := dX8_way_r84.2.2.2.2.2.2.1
theorem dX8_way_96 : decode cX8_way 96 = .ok (.if_icmp .eq 16, 3) := dX8_way_r84.2.2.2.2.2.2.2.1
theorem dX8_way_99 : decode cX8_way 99 = .ok (.aload_n 0, 1) := dX8_way_r84.2.2.2.2.2.2.2.2.1
theorem dX8_way_100 : decode cX8_way 100 = .ok (.aload_n 0, 1) := dX8_way_r84.2.2.2.2.2.2.2.2.2.1
theorem dX8_way_101 : decode cX8_way 101 = .ok (.getfield 162, 3) := dX8_way_r84.2.2.2.2.2.2.2.2.2.2.1
theorem dX8_way_104 : decode cX8_way 104 = .ok (.invokevirtual 177, 3) := dX8_way_r84.2.2.2.2.2.2.2.2.2.2.2.1
theorem dX8_way_107 : decode cX8_way 107 = .ok (.istore 4, 2) := dX8_way_r84.2.2.2.2.2.2.2.2.2.2.2.2.1
theorem dX8_way_109 : decode cX8_way 109 = .ok (.goto (-46), 3) := dX8_way_r84.2.2.2.2.2.2.2.2.2.2.2.2.2.1
theorem dX8_way_112 : decode cX8_way 112 = .ok (.aload_n 0, 1) := dX8_way_r84.2.2.2.2.2.2.2.2.2.2.2.2.2.2.1
theorem dX8_way_113 : decode cX8_way 113 = .ok (.dup, 1) := dX8_way_r84.2.2.2.2.2.2.2.2.2.2.2.2.2.2.2.1
theorem dX8_way_r114 : zdcP cX8_way 114 [(.getfield 162, 3), (.iconst 1, 1), (.iadd, 1), (.putfield 162, 3), (.iinc 3 1, 3), (.aload_n 0, 1), (.invokevirtual 217, 3), (.istore 4, 2), (.goto (-68), 3), (.iload 4, 2), (.ifCond .eq 5, 3), (.iload_n 3, 1), (.ireturn, 1), (.aload_n 0, 1), (.aload_n 0, 1), (.getfield 84, 3)] := zdcA_ok (by decide +kernel)
theorem dX8_way_114 : decode cX8_way 114 = .ok (.getfield 162, 3) := dX8_way_r114.1
theorem dX8_way_117 : decode cX8_way 117 = .ok (.iconst 1, 1) := dX8_way_r114.2.1
theorem dX8_way_118 : decode cX8_way 118 = .ok (.iadd, 1) := dX8_way_r114.2.2.1
theorem dX8_way_119 : decode cX8_way 119 = .ok (.putfield 162, 3) := dX8_way_r114.2.2.2.1
theorem dX8_way_122 : decode cX8_way 122 = .ok (.iinc 3 1, 3) := dX8_way_r114.2.2.2.2.1
theorem dX8_way_125 : decode cX8_way 125 = .ok (.aload_n 0, 1) := dX8_way_r114.2.2.2.2.2.1
theorem dX8_way_126 : decode cX8_way 126 = .ok (.invokevirtual 217, 3) := dX8_way_r114.2.2.2.2.2.2.1
theorem dX8_way_129 : decode cX8_way 129 = .ok (.istore 4, 2) := dX8_way_r114.2.2.2.2.2.2.2.1
theorem dX8_way_131 : decode cX8_way 131 = .ok (.goto (-68), 3) := dX8_way_r114.2.2.2.2.2.2.2.2.1
theorem dX8_way_134 : decode cX8_way 134 = .ok (.iload 4, 2) := dX8_way_r114.2.2.2.2.2.2.2.2.2.1
theorem dX8_way_136 : decode cX8_way 136 = .ok (.ifCond .eq 5, 3) := dX8_way_r114.2.2.2.2.2.2.2.2.2.2.1
theorem dX8_way_139 : decode cX8_way 139 = .ok (.iload_n 3, 1) := dX8_way_r114.2.2.2.2.2.2.2.2.2.2.2.1
theorem dX8_way_140 : decode cX8_way 140 = .ok (.ireturn, 1) := dX8_way_r114.2.2.2.2.2.2.2.2.2.2.2.2.1
theorem dX8_way_141 : decode cX8_way 141 = .ok (.aload_n 0, 1) := dX8_way_r114.2.2.2.2.2.2.2.2.2.2.2.2.2.1
theorem dX8_way_142 : decode cX8_way 142 = .ok (.aload_n 0, 1) := dX8_way_r114.2.2.2.2.2.2.2.2.2.2.2.2.2.2.1
theorem dX8_way_143 : decode cX8_way 143 = .ok (.getfield 84, 3) := dX8_way_r114.2.2.2.2.2.2.2.2.2.2.2.2.2.2.2.1
theorem dX8_way_r146 : zdcP cX8_way 146 [(.iconst 0, 1), (.iconst 1, 1), (.invokevirtual 213, 3), (.aload_n 0, 1), (.aload_n 0, 1), (.getfield 159, 3), (.putfield 34, 3), (.aload_n 0, 1), (.bipush (-6), 2), (.invokevirtual 115, 3), (.ireturn, 1)] := zdcA_ok (by decide +kernel)
theorem dX8_way_146 : decode cX8_way 146 = .ok (.iconst 0, 1) := dX8_way_r146.1
theorem dX8_way_147 : decode cX8_way 147 = .ok (.iconst 1, 1) := dX8_way_r146.2.1
theorem dX8_way_148 : decode cX8_way 148 = .ok (.invokevirtual 213, 3) := dX8_way_r146.2.2.1
theorem dX8_way_151 : decode cX8_way 151 = .ok (.aload_n 0, 1) := dX8_way_r146.2.2.2.1
theorem dX8_way_152 : decode cX8_way 152 = .ok (.aload_n 0, 1) := dX8_way_r146.2.2.2.2.1
theorem dX8_way_153 : decode cX8_way 153 = .ok (.getfield 159, 3) := dX8_way_r146.2.2.2.2.2.1
theorem dX8_way_156 : decode cX8_way 156 = .ok (.putfield 34, 3) := dX8_way_r146.2.2.2.2.2.2.1
theorem dX8_way_159 : decode cX8_way 159 = .ok (.aload_n 0, 1) := dX8_way_r146.2.2.2.2.2.2.2.1
theorem dX8_way_160 : decode cX8_way 160 = .ok (.bipush (-6), 2) := dX8_way_r146.2.2.2.2.2.2.2.2.1
theorem dX8_way_162 : decode cX8_way 162 = .ok (.invokevirtual 115, 3) := dX8_way_r146.2.2.2.2.2.2.2.2.2.1
theorem dX8_way_165 : decode cX8_way 165 = .ok (.ireturn, 1) := dX8_way_r146.2.2.2.2.2.2.2.2.2.2.1
def wq_162_134 (v1 : Int32) (v3 : Int32) (v4 : Int32) (m : zf_Me) (Q : Int32 → zf_Me → Prop) : Prop := ((v4.toInt = 0 → wp_161 79 90 0 1 m (fun m16 => (∀ m17, m17 = zf_u m16 63 13 (m16.1 63 33) → wp_125 (-6) m17 (fun x19 m20 => Q x19 m20)))) ∧ (¬ v4.toInt = 0 → Q v3 m))
theorem zq_162_134 {d : Nat} (hd : 5 ≤ d) {v1 : Int32} {Q : Int32 → zf_Me → Prop} {v3 : Int32} {v4 : Int32} {m : zf_Me} (h : wq_162_134 v1 v3 v4 m Q) : zf_W none 0 0 d zt_162 134 [some (.inr (.inr (1, 63))), none, none, some (.inl v3), some (.inl v4)] [] m (zf_I Q) := by
  obtain ⟨e, rfl⟩ : ∃ z, d = z + 1 := ⟨d - 1, by omega⟩
  unfold wq_162_134 at h
  refine zf_ld (pc' := 136) (v := .inl v4) dX8_way_134 rfl (fun _ _ _ => rfl) rfl rfl rfl ?_
  refine zf_if_eq (tgt := 141) (pc' := 139) dX8_way_136 rfl rfl (fun g => ?_) (fun g => ?_)
  · replace h := h.1 g
    refine zf_ld (pc' := 142) (v := .inr (.inr (1, 63))) dX8_way_141 rfl (fun _ _ _ => rfl) rfl rfl rfl ?_
    refine zf_ld (pc' := 143) (v := .inr (.inr (1, 63))) dX8_way_142 rfl (fun _ _ _ => rfl) rfl rfl rfl ?_
    refine zf_gfr (pc' := 146) (b := 79) dX8_way_143 rfl rfl (by decide) rfl rfl ?_
    refine zf_ic (v := 0) (pc' := 147) dX8_way_146 rfl rfl ?_
    refine zf_ic (v := 1) (pc' := 148) dX8_way_147 rfl rfl ?_
    refine zf_iv (k := 161) (pc' := 151) (r := []) dX8_way_148 rfl rfl rfl rfl (by decide) rfl rfl rfl (zr_161 (by omega) (⟨by decide, rfl⟩ : zf_arr 79 90) h) (zf_kO (fun m16 h => ?_))
    refine zf_ld (pc' := 152) (v := .inr (.inr (1, 63))) dX8_way_151 rfl (fun _ _ _ => rfl) rfl rfl rfl ?_
    refine zf_ld (pc' := 153) (v := .inr (.inr (1, 63))) dX8_way_152 rfl (fun _ _ _ => rfl) rfl rfl rfl ?_
    refine zf_gfi (pc' := 156) dX8_way_153 rfl rfl (by decide) rfl rfl ?_
    refine zf_pf (pc' := 159) dX8_way_156 rfl rfl (by decide) rfl rfl rfl (fun m17 e18 => ?_)
    replace h := h m17 e18
    refine zf_ld (pc' := 160) (v := .inr (.inr (1, 63))) dX8_way_159 rfl (fun _ _ _ => rfl) rfl rfl rfl ?_
    refine zf_bi (v := (-6)) (pc' := 162) dX8_way_160 rfl rfl ?_
    refine zf_iv (k := 125) (pc' := 165) (r := []) dX8_way_162 rfl rfl rfl rfl (by decide) rfl rfl rfl (zr_125 (by omega) h) (zf_kI (fun x19 m20 h => ?_))
    exact zf_ri dX8_way_165 rfl h
  · replace h := h.2 g
    refine zf_ld (pc' := 140) (v := .inl v3) dX8_way_139 rfl (fun _ _ _ => rfl) rfl rfl rfl ?_
    exact zf_ri dX8_way_140 rfl h
def wq_162_63 (v1 : Int32) (Q : Int32 → zf_Me → Prop) : Nat → Int32 → Int32 → zf_Me → Prop
  | 0, _, _, _ => False
  | n + 1, v3, v4, m => ((v4.toInt = 0 → wq_162_134 v1 v3 v4 m Q) ∧ (¬ v4.toInt = 0 → ((((m.1 63 30)).toInt ≥ ((m.1 63 31)).toInt → wq_162_134 v1 v3 v4 m Q) ∧ (((m.1 63 30)).toInt < ((m.1 63 31)).toInt → ((0 ≤ (Int32.toInt ((m.1 63 29) + (m.1 63 30))) ∧ (Int32.toInt ((m.1 63 29) + (m.1 63 30))) < (1280 : Int)) ∧ ((((Int64.toInt32 (m.2 74 (Int32.toInt ((m.1 63 29) + (m.1 63 30))).toNat))).toInt = 59 → (∀ m21, m21 = zf_u m 63 30 ((m.1 63 30) + 1) → wp_159 m21 (fun b23 m24 => wq_162_63 v1 Q n (v3 + 1) (zb b23) m24))) ∧ (¬ ((Int64.toInt32 (m.2 74 (Int32.toInt ((m.1 63 29) + (m.1 63 30))).toNat))).toInt = 59 → wp_153 (m.1 63 30) m (fun b25 m26 => wq_162_63 v1 Q n v3 (zb b25) m26))))))))
theorem zq_162_63 {d : Nat} (hd : 5 ≤ d) {v1 : Int32} {Q : Int32 → zf_Me → Prop} : ∀ (n : Nat) (v3 : Int32) (v4 : Int32) (m : zf_Me), wq_162_63 v1 Q n v3 v4 m → zf_W none 0 0 d zt_162 63 [some (.inr (.inr (1, 63))), none, none, some (.inl v3), some (.inl v4)] [] m (zf_I Q) := by
  obtain ⟨e, rfl⟩ : ∃ z, d = z + 1 := ⟨d - 1, by omega⟩
  intro n
  induction n with
  | zero =>
    intro v3 v4 m h
    exact h.elim
  | succ n ih =>
    intro v3 v4 m h
    unfold wq_162_63 at h
    refine zf_ld (pc' := 65) (v := .inl v4) dX8_way_63 rfl (fun _ _ _ => rfl) rfl rfl rfl ?_
    refine zf_if_eq (tgt := 134) (pc' := 68) dX8_way_65 rfl rfl (fun g => ?_) (fun g => ?_)
    · replace h := h.1 g
      exact zf_lo (zq_162_134 (by omega) h) ⟨rfl, rfl, rfl, trivial⟩
    · replace h := h.2 g
      refine zf_ld (pc' := 69) (v := .inr (.inr (1, 63))) dX8_way_68 rfl (fun _ _ _ => rfl) rfl rfl rfl ?_
      refine zf_gfi (pc' := 72) dX8_way_69 rfl rfl (by decide) rfl rfl ?_
      refine zf_ld (pc' := 73) (v := .inr (.inr (1, 63))) dX8_way_72 rfl (fun _ _ _ => rfl) rfl rfl rfl ?_
      refine zf_gfi (pc' := 76) dX8_way_73 rfl rfl (by decide) rfl rfl ?_
      refine zf_icmp_ge (tgt := 134) (pc' := 79) dX8_way_76 rfl rfl (fun g => ?_) (fun g => ?_)
      · replace h := h.1 g
        exact zf_lo (zq_162_134 (by omega) h) ⟨rfl, rfl, rfl, trivial⟩
      · replace h := h.2 g
        refine zf_ld (pc' := 80) (v := .inr (.inr (1, 63))) dX8_way_79 rfl (fun _ _ _ => rfl) rfl rfl rfl ?_
        refine zf_gfr (pc' := 83) (b := 74) dX8_way_80 rfl rfl (by decide) rfl rfl ?_
        refine zf_ld (pc' := 84) (v := .inr (.inr (1, 63))) dX8_way_83 rfl (fun _ _ _ => rfl) rfl rfl rfl ?_
        refine zf_gfi (pc' := 87) dX8_way_84 rfl rfl (by decide) rfl rfl ?_
        refine zf_ld (pc' := 88) (v := .inr (.inr (1, 63))) dX8_way_87 rfl (fun _ _ _ => rfl) rfl rfl rfl ?_
        refine zf_gfi (pc' := 91) dX8_way_88 rfl rfl (by decide) rfl rfl ?_
        refine zf_in (pc' := 92) (S' := [.inl ((m.1 63 29) + (m.1 63 30)), .inr (.inr (1, 74))]) dX8_way_91 rfl (fun _ _ _ => rfl) ?_
        refine zf_lal (pc' := 93) dX8_way_92 rfl (⟨by decide, rfl⟩ : zf_larr 74 1280).1 (⟨by decide, rfl⟩ : zf_larr 74 1280).2 h.1 rfl ?_
        replace h := h.2
        refine zf_in (pc' := 94) (S' := [.inl (Int64.toInt32 (m.2 74 (Int32.toInt ((m.1 63 29) + (m.1 63 30))).toNat))]) dX8_way_93 rfl (fun _ _ _ => rfl) ?_
        refine zf_bi (v := 59) (pc' := 96) dX8_way_94 rfl rfl ?_
        refine zf_icmp_eq (tgt := 112) (pc' := 99) dX8_way_96 rfl rfl (fun g => ?_) (fun g => ?_)
        · replace h := h.1 g
          refine zf_ld (pc' := 113) (v := .inr (.inr (1, 63))) dX8_way_112 rfl (fun _ _ _ => rfl) rfl rfl rfl ?_
          refine zf_in (pc' := 114) (S' := [.inr (.inr (1, 63)), .inr (.inr (1, 63))]) dX8_way_113 rfl (fun _ _ _ => rfl) ?_
          refine zf_gfi (pc' := 117) dX8_way_114 rfl rfl (by decide) rfl rfl ?_
          refine zf_ic (v := 1) (pc' := 118) dX8_way_117 rfl rfl ?_
          refine zf_in (pc' := 119) (S' := [.inl ((m.1 63 30) + 1), .inr (.inr (1, 63))]) dX8_way_118 rfl (fun _ _ _ => rfl) ?_
          refine zf_pf (pc' := 122) dX8_way_119 rfl rfl (by decide) rfl rfl rfl (fun m21 e22 => ?_)
          replace h := h m21 e22
          refine zf_ii (y := (v3 + 1)) (L2 := [some (.inr (.inr (1, 63))), none, none, some (.inl (v3 + 1)), some (.inl v4)]) (pc' := 125) dX8_way_122 rfl rfl rfl rfl rfl ?_
          refine zf_ld (pc' := 126) (v := .inr (.inr (1, 63))) dX8_way_125 rfl (fun _ _ _ => rfl) rfl rfl rfl ?_
          refine zf_iv (k := 159) (pc' := 129) (r := []) dX8_way_126 rfl rfl rfl rfl (by decide) rfl rfl rfl (zr_159 (by omega) h) (zf_kB (fun b23 m24 h => ?_))
          refine zf_st (pc' := 131) (L2 := [some (.inr (.inr (1, 63))), none, none, some (.inl (v3 + 1)), some (.inl (zb b23))]) dX8_way_129 rfl (fun _ _ _ => rfl) rfl rfl rfl rfl rfl rfl ?_
          refine zf_goto (tgt := 63) dX8_way_131 rfl ?_
          exact zf_lo (ih _ _ _ h) ⟨rfl, rfl, rfl, trivial⟩
        · replace h := h.2 g
          refine zf_ld (pc' := 100) (v := .inr (.inr (1, 63))) dX8_way_99 rfl (fun _ _ _ => rfl) rfl rfl rfl ?_
          refine zf_ld (pc' := 101) (v := .inr (.inr (1, 63))) dX8_way_100 rfl (fun _ _ _ => rfl) rfl rfl rfl ?_
          refine zf_gfi (pc' := 104) dX8_way_101 rfl rfl (by decide) rfl rfl ?_
          refine zf_iv (k := 153) (pc' := 107) (r := []) dX8_way_104 rfl rfl rfl rfl (by decide) rfl rfl rfl (zr_153 (by omega) h) (zf_kB (fun b25 m26 h => ?_))
          refine zf_st (pc' := 109) (L2 := [some (.inr (.inr (1, 63))), none, none, some (.inl v3), some (.inl (zb b25))]) dX8_way_107 rfl (fun _ _ _ => rfl) rfl rfl rfl rfl rfl rfl ?_
          refine zf_goto (tgt := 63) dX8_way_109 rfl ?_
          exact zf_lo (ih _ _ _ h) ⟨rfl, rfl, rfl, trivial⟩
def wp_162 (v1 : Int32) (m : zf_Me) (Q : Int32 → zf_Me → Prop) : Prop := wp_137 v1 m (fun x1 m2 => ((x1.toInt = 0 → wp_161 79 90 0 0 m2 (fun m4 => (∀ m5, m5 = zf_u m4 63 29 (160 * v1) → (∀ m7, m7 = zf_u m5 63 30 0 → ((0 ≤ (Int32.toInt v1) ∧ (Int32.toInt v1) < (8 : Int)) ∧ (∀ m9, m9 = zf_u m7 63 31 (m7.1 72 (Int32.toInt v1).toNat) → (∀ m11, m11 = zf_u m9 63 13 (-1) → wp_159 m11 (fun b13 m14 => (∃ n63, wq_162_63 v1 Q n63 1 (zb b13) m14))))))))) ∧ (¬ x1.toInt = 0 → wp_125 x1 m2 (fun x27 m28 => Q x27 m28))))
theorem zr_162 {d : Nat} (hd : 5 ≤ d) {v1 : Int32} {Q : Int32 → zf_Me → Prop} {m : zf_Me} (h : wp_162 v1 m Q) : zf_M d 162 [.inr (.inr (1, 63)), .inl v1] m (zf_I Q) := by
  obtain ⟨e, rfl⟩ : ∃ z, d = z + 1 := ⟨d - 1, by omega⟩
  unfold wp_162 at h
  refine zf_M_of (Nat.le_of_ble_eq_true rfl) zm_162 (L := [some (.inr (.inr (1, 63))), some (.inl v1), none, none, none]) rfl ?_
  refine zf_ld (pc' := 1) (v := .inr (.inr (1, 63))) dX8_way_0 rfl (fun _ _ _ => rfl) rfl rfl rfl ?_
  refine zf_ld (pc' := 2) (v := .inl v1) dX8_way_1 rfl (fun _ _ _ => rfl) rfl rfl rfl ?_
  refine zf_iv (k := 137) (pc' := 5) (r := []) dX8_way_2 rfl rfl rfl rfl (by decide) rfl rfl rfl (zr_137 (by omega) h) (zf_kI (fun x1 m2 h => ?_))
  refine zf_st (pc' := 6) (L2 := [some (.inr (.inr (1, 63))), some (.inl v1), some (.inl x1), none, none]) dX8_way_5 rfl (fun _ _ _ => rfl) rfl rfl rfl rfl rfl rfl ?_
  refine zf_ld (pc' := 7) (v := .inl x1) dX8_way_6 rfl (fun _ _ _ => rfl) rfl rfl rfl ?_
  refine zf_if_eq (tgt := 16) (pc' := 10) dX8_way_7 rfl rfl (fun g => ?_) (fun g => ?_)
  · replace h := h.1 g
    refine zf_ld (pc' := 17) (v := .inr (.inr (1, 63))) dX8_way_16 rfl (fun _ _ _ => rfl) rfl rfl rfl ?_
    refine zf_ld (pc' := 18) (v := .inr (.inr (1, 63))) dX8_way_17 rfl (fun _ _ _ => rfl) rfl rfl rfl ?_
    refine zf_gfr (pc' := 21) (b := 79) dX8_way_18 rfl rfl (by decide) rfl rfl ?_
    refine zf_ic (v := 0) (pc' := 22) dX8_way_21 rfl rfl ?_
    refine zf_ic (v := 0) (pc' := 23) dX8_way_22 rfl rfl ?_
    refine zf_iv (k := 161) (pc' := 26) (r := []) dX8_way_23 rfl rfl rfl rfl (by decide) rfl rfl rfl (zr_161 (by omega) (⟨by decide, rfl⟩ : zf_arr 79 90) h) (zf_kO (fun m4 h => ?_))
    refine zf_ld (pc' := 27) (v := .inr (.inr (1, 63))) dX8_way_26 rfl (fun _ _ _ => rfl) rfl rfl rfl ?_
    refine zf_si (v := 160) (pc' := 30) dX8_way_27 rfl rfl ?_
    refine zf_ld (pc' := 31) (v := .inl v1) dX8_way_30 rfl (fun _ _ _ => rfl) rfl rfl rfl ?_
    refine zf_in (pc' := 32) (S' := [.inl (160 * v1), .inr (.inr (1, 63))]) dX8_way_31 rfl (fun _ _ _ => rfl) ?_
    refine zf_pf (pc' := 35) dX8_way_32 rfl rfl (by decide) rfl rfl rfl (fun m5 e6 => ?_)
    replace h := h m5 e6
    refine zf_ld (pc' := 36) (v := .inr (.inr (1, 63))) dX8_way_35 rfl (fun _ _ _ => rfl) rfl rfl rfl ?_
    refine zf_ic (v := 0) (pc' := 37) dX8_way_36 rfl rfl ?_
    refine zf_pf (pc' := 40) dX8_way_37 rfl rfl (by decide) rfl rfl rfl (fun m7 e8 => ?_)
    replace h := h m7 e8
    refine zf_ld (pc' := 41) (v := .inr (.inr (1, 63))) dX8_way_40 rfl (fun _ _ _ => rfl) rfl rfl rfl ?_
    refine zf_ld (pc' := 42) (v := .inr (.inr (1, 63))) dX8_way_41 rfl (fun _ _ _ => rfl) rfl rfl rfl ?_
    refine zf_gfr (pc' := 45) (b := 72) dX8_way_42 rfl rfl (by decide) rfl rfl ?_
    refine zf_ld (pc' := 46) (v := .inl v1) dX8_way_45 rfl (fun _ _ _ => rfl) rfl rfl rfl ?_
    refine zf_ial (pc' := 47) dX8_way_46 rfl (⟨by decide, rfl⟩ : zf_arr 72 8).1 (⟨by decide, rfl⟩ : zf_arr 72 8).2 h.1 rfl ?_
    replace h := h.2
    refine zf_pf (pc' := 50) dX8_way_47 rfl rfl (by decide) rfl rfl rfl (fun m9 e10 => ?_)
    replace h := h m9 e10
    refine zf_ld (pc' := 51) (v := .inr (.inr (1, 63))) dX8_way_50 rfl (fun _ _ _ => rfl) rfl rfl rfl ?_
    refine zf_ic (v := (-1)) (pc' := 52) dX8_way_51 rfl rfl ?_
    refine zf_pf (pc' := 55) dX8_way_52 rfl rfl (by decide) rfl rfl rfl (fun m11 e12 => ?_)
    replace h := h m11 e12
    refine zf_ic (v := 1) (pc' := 56) dX8_way_55 rfl rfl ?_
    refine zf_st (pc' := 57) (L2 := [some (.inr (.inr (1, 63))), some (.inl v1), some (.inl x1), some (.inl 1), none]) dX8_way_56 rfl (fun _ _ _ => rfl) rfl rfl rfl rfl rfl rfl ?_
    refine zf_ld (pc' := 58) (v := .inr (.inr (1, 63))) dX8_way_57 rfl (fun _ _ _ => rfl) rfl rfl rfl ?_
    refine zf_iv (k := 159) (pc' := 61) (r := []) dX8_way_58 rfl rfl rfl rfl (by decide) rfl rfl rfl (zr_159 (by omega) h) (zf_kB (fun b13 m14 h => ?_))
    refine zf_st (pc' := 63) (L2 := [some (.inr (.inr (1, 63))), some (.inl v1), some (.inl x1), some (.inl 1), some (.inl (zb b13))]) dX8_way_61 rfl (fun _ _ _ => rfl) rfl rfl rfl rfl rfl rfl ?_
    obtain ⟨n63, h⟩ := h
    exact zf_lo (zq_162_63 (by omega) n63 _ _ _ h) ⟨rfl, rfl, rfl, trivial⟩
  · replace h := h.2 g
    refine zf_ld (pc' := 11) (v := .inr (.inr (1, 63))) dX8_way_10 rfl (fun _ _ _ => rfl) rfl rfl rfl ?_
    refine zf_ld (pc' := 12) (v := .inl x1) dX8_way_11 rfl (fun _ _ _ => rfl) rfl rfl rfl ?_
    refine zf_iv (k := 125) (pc' := 15) (r := []) dX8_way_12 rfl rfl rfl rfl (by decide) rfl rfl rfl (zr_125 (by omega) h) (zf_kI (fun x27 m28 h => ?_))
    exact zf_ri dX8_way_15 rfl h
def zt_163 : zx_MT := (8, yX8_fault, cX8_fault, 1, (some FieldType.int), 0, 0)
theorem zm_163 : zx_m 163 = zt_163 := rfl
theorem dX8_fault_r0 : zdcP cX8_fault 0 [(.aload_n 0, 1), (.getfield 34, 3), (.ireturn, 1)] := zdcA_ok (by decide +kernel)
theorem dX8_fault_0 : decode cX8_fault 0 = .ok (.aload_n 0, 1) := dX8_fault_r0.1
theorem dX8_fault_1 : decode cX8_fault 1 = .ok (.getfield 34, 3) := dX8_fault_r0.2.1
theorem dX8_fault_4 : decode cX8_fault 4 = .ok (.ireturn, 1) := dX8_fault_r0.2.2.1
def wp_163 (m : zf_Me) (Q : Int32 → zf_Me → Prop) : Prop := Q (m.1 63 13) m
theorem zr_163 {d : Nat} (hd : 0 ≤ d) {Q : Int32 → zf_Me → Prop} {m : zf_Me} (h : wp_163 m Q) : zf_M d 163 [.inr (.inr (1, 63))] m (zf_I Q) := by
  unfold wp_163 at h
  refine zf_M_of (Nat.le_of_ble_eq_true rfl) zm_163 (L := [some (.inr (.inr (1, 63)))]) rfl ?_
  refine zf_ld (pc' := 1) (v := .inr (.inr (1, 63))) dX8_fault_0 rfl (fun _ _ _ => rfl) rfl rfl rfl ?_
  refine zf_gfi (pc' := 4) dX8_fault_1 rfl rfl (by decide) rfl rfl ?_
  exact zf_ri dX8_fault_4 rfl h
def zt_170 : zx_MT := (8, yX8_greatest, cX8_greatest, 3, (some FieldType.int), 0, 0)
theorem zm_170 : zx_m 170 = zt_170 := rfl
theorem dX8_greatest_r0 : zdcP cX8_greatest 0 [(.iconst 0, 1), (.istore_n 1, 1), (.iconst 0, 1), (.istore_n 2, 1), (.iload_n 2, 1), (.aload_n 0, 1), (.getfield 105, 3), (.if_icmp .ge 30, 3), (.aload_n 0, 1), (.getfield 53, 3), (.iload_n 2, 1), (.iaload, 1), (.iload_n 1, 1), (.if_icmp .le 12, 3), (.aload_n 0, 1), (.getfield 53, 3)] := zdcA_ok (by decide +kernel)
theorem dX8_greatest_0 : decode cX8_greatest 0 = .ok (.iconst 0, 1) := dX8_greatest_r0.1
theorem dX8_greatest_1 : decode cX8_greatest 1 = .ok (.istore_n 1, 1) := dX8_greatest_r0.2.1
theorem dX8_greatest_2 : decode cX8_greatest 2 = .ok (.iconst 0, 1) := dX8_greatest_r0.2.2.1
theorem dX8_greatest_3 : decode cX8_greatest 3 = .ok (.istore_n 2, 1) := dX8_greatest_r0.2.2.2.1
theorem dX8_greatest_4 : decode cX8_greatest 4 = .ok (.iload_n 2, 1) := dX8_greatest_r0.2.2.2.2.1
theorem dX8_greatest_5 : decode cX8_greatest 5 = .ok (.aload_n 0, 1) := dX8_greatest_r0.2.2.2.2.2.1
theorem dX8_greatest_6 : decode cX8_greatest 6 = .ok (.getfield 105, 3) := dX8_greatest_r0.2.2.2.2.2.2.1
theorem dX8_greatest_9 : decode cX8_greatest 9 = .ok (.if_icmp .ge 30, 3) := dX8_greatest_r0.2.2.2.2.2.2.2.1
theorem dX8_greatest_12 : decode cX8_greatest 12 = .ok (.aload_n 0, 1) := dX8_greatest_r0.2.2.2.2.2.2.2.2.1
theorem dX8_greatest_13 : decode cX8_greatest 13 = .ok (.getfield 53, 3) := dX8_greatest_r0.2.2.2.2.2.2.2.2.2.1
theorem dX8_greatest_16 : decode cX8_greatest 16 = .ok (.iload_n 2, 1) := dX8_greatest_r0.2.2.2.2.2.2.2.2.2.2.1
theorem dX8_greatest_17 : decode cX8_greatest 17 = .ok (.iaload, 1) := dX8_greatest_r0.2.2.2.2.2.2.2.2.2.2.2.1
theorem dX8_greatest_18 : decode cX8_greatest 18 = .ok (.iload_n 1, 1) := dX8_greatest_r0.2.2.2.2.2.2.2.2.2.2.2.2.1
theorem dX8_greatest_19 : decode cX8_greatest 19 = .ok (.if_icmp .le 12, 3) := dX8_greatest_r0.2.2.2.2.2.2.2.2.2.2.2.2.2.1
theorem dX8_greatest_22 : decode cX8_greatest 22 = .ok (.aload_n 0, 1) := dX8_greatest_r0.2.2.2.2.2.2.2.2.2.2.2.2.2.2.1
theorem dX8_greatest_23 : decode cX8_greatest 23 = .ok (.getfield 53, 3) := dX8_greatest_r0.2.2.2.2.2.2.2.2.2.2.2.2.2.2.2.1
theorem dX8_greatest_r26 : zdcP cX8_greatest 26 [(.iload_n 2, 1), (.iaload, 1), (.goto 4, 3), (.iload_n 1, 1), (.istore_n 1, 1), (.iinc 2 1, 3), (.goto (-32), 3), (.iload_n 1, 1), (.ireturn, 1)] := zdcA_ok (by decide +kernel)
theorem dX8_greatest_26 : decode cX8_greatest 26 = .ok (.iload_n 2, 1) := dX8_greatest_r26.1
theorem dX8_greatest_27 : decode cX8_greatest 27 = .ok (.iaload, 1) := dX8_greatest_r26.2.1
theorem dX8_greatest_28 : decode cX8_greatest 28 = .ok (.goto 4, 3) := dX8_greatest_r26.2.2.1
theorem dX8_greatest_31 : decode cX8_greatest 31 = .ok (.iload_n 1, 1) := dX8_greatest_r26.2.2.2.1
theorem dX8_greatest_32 : decode cX8_greatest 32 = .ok (.istore_n 1, 1) := dX8_greatest_r26.2.2.2.2.1
theorem dX8_greatest_33 : decode cX8_greatest 33 = .ok (.iinc 2 1, 3) := dX8_greatest_r26.2.2.2.2.2.1
theorem dX8_greatest_36 : decode cX8_greatest 36 = .ok (.goto (-32), 3) := dX8_greatest_r26.2.2.2.2.2.2.1
theorem dX8_greatest_39 : decode cX8_greatest 39 = .ok (.iload_n 1, 1) := dX8_greatest_r26.2.2.2.2.2.2.2.1
theorem dX8_greatest_40 : decode cX8_greatest 40 = .ok (.ireturn, 1) := dX8_greatest_r26.2.2.2.2.2.2.2.2.1
def wq_170_4 (Q : Int32 → zf_Me → Prop) : Nat → Int32 → Int32 → zf_Me → Prop
  | 0, _, _, _ => False
  | n + 1, v1, v2, m => ((v2.toInt ≥ ((m.1 63 1)).toInt → Q v1 m) ∧ (v2.toInt < ((m.1 63 1)).toInt → ((0 ≤ (Int32.toInt v2) ∧ (Int32.toInt v2) < (6 : Int)) ∧ ((((m.1 69 (Int32.toInt v2).toNat)).toInt ≤ v1.toInt → wq_170_4 Q n v1 (v2 + 1) m) ∧ (((m.1 69 (Int32.toInt v2).toNat)).toInt > v1.toInt → ((0 ≤ (Int32.toInt v2) ∧ (Int32.toInt v2) < (6 : Int)) ∧ wq_170_4 Q n (m.1 69 (Int32.toInt v2).toNat) (v2 + 1) m))))))
theorem zq_170_4 {d : Nat} (hd : 0 ≤ d) {Q : Int32 → zf_Me → Prop} : ∀ (n : Nat) (v1 : Int32) (v2 : Int32) (m : zf_Me), wq_170_4 Q n v1 v2 m → zf_W none 0 0 d zt_170 4 [some (.inr (.inr (1, 63))), some (.inl v1), some (.inl v2)] [] m (zf_I Q) := by
  intro n
  induction n with
  | zero =>
    intro v1 v2 m h
    exact h.elim
  | succ n ih =>
    intro v1 v2 m h
    unfold wq_170_4 at h
    refine zf_ld (pc' := 5) (v := .inl v2) dX8_greatest_4 rfl (fun _ _ _ => rfl) rfl rfl rfl ?_
    refine zf_ld (pc' := 6) (v := .inr (.inr (1, 63))) dX8_greatest_5 rfl (fun _ _ _ => rfl) rfl rfl rfl ?_
    refine zf_gfi (pc' := 9) dX8_greatest_6 rfl rfl (by decide) rfl rfl ?_
    refine zf_icmp_ge (tgt := 39) (pc' := 12) dX8_greatest_9 rfl rfl (fun g => ?_) (fun g => ?_)
    · replace h := h.1 g
      refine zf_ld (pc' := 40) (v := .inl v1) dX8_greatest_39 rfl (fun _ _ _ => rfl) rfl rfl rfl ?_
      exact zf_ri dX8_greatest_40 rfl h
    · replace h := h.2 g
      refine zf_ld (pc' := 13) (v := .inr (.inr (1, 63))) dX8_greatest_12 rfl (fun _ _ _ => rfl) rfl rfl rfl ?_
      refine zf_gfr (pc' := 16) (b := 69) dX8_greatest_13 rfl rfl (by decide) rfl rfl ?_
      refine zf_ld (pc' := 17) (v := .inl v2) dX8_greatest_16 rfl (fun _ _ _ => rfl) rfl rfl rfl ?_
      refine zf_ial (pc' := 18) dX8_greatest_17 rfl (⟨by decide, rfl⟩ : zf_arr 69 6).1 (⟨by decide, rfl⟩ : zf_arr 69 6).2 h.1 rfl ?_
      replace h := h.2
      refine zf_ld (pc' := 19) (v := .inl v1) dX8_greatest_18 rfl (fun _ _ _ => rfl) rfl rfl rfl ?_
      refine zf_icmp_le (tgt := 31) (pc' := 22) dX8_greatest_19 rfl rfl (fun g => ?_) (fun g => ?_)
      · replace h := h.1 g
        refine zf_ld (pc' := 32) (v := .inl v1) dX8_greatest_31 rfl (fun _ _ _ => rfl) rfl rfl rfl ?_
        refine zf_st (pc' := 33) (L2 := [some (.inr (.inr (1, 63))), some (.inl v1), some (.inl v2)]) dX8_greatest_32 rfl (fun _ _ _ => rfl) rfl rfl rfl rfl rfl rfl ?_
        refine zf_ii (y := (v2 + 1)) (L2 := [some (.inr (.inr (1, 63))), some (.inl v1), some (.inl (v2 + 1))]) (pc' := 36) dX8_greatest_33 rfl rfl rfl rfl rfl ?_
        refine zf_goto (tgt := 4) dX8_greatest_36 rfl ?_
        exact zf_lo (ih _ _ _ h) ⟨rfl, rfl, rfl, trivial⟩
      · replace h := h.2 g
        refine zf_ld (pc' := 23) (v := .inr (.inr (1, 63))) dX8_greatest_22 rfl (fun _ _ _ => rfl) rfl rfl rfl ?_
        refine zf_gfr (pc' := 26) (b := 69) dX8_greatest_23 rfl rfl (by decide) rfl rfl ?_
        refine zf_ld (pc' := 27) (v := .inl v2) dX8_greatest_26 rfl (fun _ _ _ => rfl) rfl rfl rfl ?_
        refine zf_ial (pc' := 28) dX8_greatest_27 rfl (⟨by decide, rfl⟩ : zf_arr 69 6).1 (⟨by decide, rfl⟩ : zf_arr 69 6).2 h.1 rfl ?_
        replace h := h.2
        refine zf_goto (tgt := 32) dX8_greatest_28 rfl ?_
        refine zf_st (pc' := 33) (L2 := [some (.inr (.inr (1, 63))), some (.inl (m.1 69 (Int32.toInt v2).toNat)), some (.inl v2)]) dX8_greatest_32 rfl (fun _ _ _ => rfl) rfl rfl rfl rfl rfl rfl ?_
        refine zf_ii (y := (v2 + 1)) (L2 := [some (.inr (.inr (1, 63))), some (.inl (m.1 69 (Int32.toInt v2).toNat)), some (.inl (v2 + 1))]) (pc' := 36) dX8_greatest_33 rfl rfl rfl rfl rfl ?_
        refine zf_goto (tgt := 4) dX8_greatest_36 rfl ?_
        exact zf_lo (ih _ _ _ h) ⟨rfl, rfl, rfl, trivial⟩
def wp_170 (m : zf_Me) (Q : Int32 → zf_Me → Prop) : Prop := (∃ n4, wq_170_4 Q n4 0 0 m)
theorem zr_170 {d : Nat} (hd : 0 ≤ d) {Q : Int32 → zf_Me → Prop} {m : zf_Me} (h : wp_170 m Q) : zf_M d 170 [.inr (.inr (1, 63))] m (zf_I Q) := by
  unfold wp_170 at h
  refine zf_M_of (Nat.le_of_ble_eq_true rfl) zm_170 (L := [some (.inr (.inr (1, 63))), none, none]) rfl ?_
  refine zf_ic (v := 0) (pc' := 1) dX8_greatest_0 rfl rfl ?_
  refine zf_st (pc' := 2) (L2 := [some (.inr (.inr (1, 63))), some (.inl 0), none]) dX8_greatest_1 rfl (fun _ _ _ => rfl) rfl rfl rfl rfl rfl rfl ?_
  refine zf_ic (v := 0) (pc' := 3) dX8_greatest_2 rfl rfl ?_
  refine zf_st (pc' := 4) (L2 := [some (.inr (.inr (1, 63))), some (.inl 0), some (.inl 0)]) dX8_greatest_3 rfl (fun _ _ _ => rfl) rfl rfl rfl rfl rfl rfl ?_
  obtain ⟨n4, h⟩ := h
  exact zf_lo (zq_170_4 (by omega) n4 _ _ _ h) ⟨rfl, rfl, rfl, trivial⟩
def zt_171 : zx_MT := (8, yX8_load, cX8_load, 3, (some FieldType.int), 2, 0)
theorem zm_171 : zx_m 171 = zt_171 := rfl
theorem dX8_load_r0 : zdcP cX8_load 0 [(.aload_n 0, 1), (.iload_n 1, 1), (.invokevirtual 119, 3), (.ifCond .ne 9, 3), (.aload_n 0, 1), (.iconst (-1), 1), (.invokevirtual 115, 3), (.ireturn, 1), (.aload_n 0, 1), (.iload_n 2, 1), (.invokevirtual 139, 3), (.ifCond .eq 17, 3), (.aload_n 0, 1), (.iload_n 1, 1), (.aload_n 0, 1), (.getfield 41, 3)] := zdcA_ok (by decide +kernel)
theorem dX8_load_0 : decode cX8_load 0 = .ok (.aload_n 0, 1) := dX8_load_r0.1
theorem dX8_load_1 : decode cX8_load 1 = .ok (.iload_n 1, 1) := dX8_load_r0.2.1
theorem dX8_load_2 : decode cX8_load 2 = .ok (.invokevirtual 119, 3) := dX8_load_r0.2.2.1
theorem dX8_load_5 : decode cX8_load 5 = .ok (.ifCond .ne 9, 3) := dX8_load_r0.2.2.2.1
theorem dX8_load_8 : decode cX8_load 8 = .ok (.aload_n 0, 1) := dX8_load_r0.2.2.2.2.1
theorem dX8_load_9 : decode cX8_load 9 = .ok (.iconst (-1), 1) := dX8_load_r0.2.2.2.2.2.1
theorem dX8_load_10 : decode cX8_load 10 = .ok (.invokevirtual 115, 3) := dX8_load_r0.2.2.2.2.2.2.1
theorem dX8_load_13 : decode cX8_load 13 = .ok (.ireturn, 1) := dX8_load_r0.2.2.2.2.2.2.2.1
theorem dX8_load_14 : decode cX8_load 14 = .ok (.aload_n 0, 1) := dX8_load_r0.2.2.2.2.2.2.2.2.1
theorem dX8_load_15 : decode cX8_load 15 = .ok (.iload_n 2, 1) := dX8_load_r0.2.2.2.2.2.2.2.2.2.1
theorem dX8_load_16 : decode cX8_load 16 = .ok (.invokevirtual 139, 3) := dX8_load_r0.2.2.2.2.2.2.2.2.2.2.1
theorem dX8_load_19 : decode cX8_load 19 = .ok (.ifCond .eq 17, 3) := dX8_load_r0.2.2.2.2.2.2.2.2.2.2.2.1
theorem dX8_load_22 : decode cX8_load 22 = .ok (.aload_n 0, 1) := dX8_load_r0.2.2.2.2.2.2.2.2.2.2.2.2.1
theorem dX8_load_23 : decode cX8_load 23 = .ok (.iload_n 1, 1) := dX8_load_r0.2.2.2.2.2.2.2.2.2.2.2.2.2.1
theorem dX8_load_24 : decode cX8_load 24 = .ok (.aload_n 0, 1) := dX8_load_r0.2.2.2.2.2.2.2.2.2.2.2.2.2.2.1
theorem dX8_load_25 : decode cX8_load 25 = .ok (.getfield 41, 3) := dX8_load_r0.2.2.2.2.2.2.2.2.2.2.2.2.2.2.2.1
theorem dX8_load_r28 : zdcP cX8_load 28 [(.iload_n 2, 1), (.iaload, 1), (.invokevirtual 126, 3), (.goto 9, 3), (.aload_n 0, 1), (.bipush (-5), 2), (.invokevirtual 115, 3), (.ireturn, 1)] := zdcA_ok (by decide +kernel)
theorem dX8_load_28 : decode cX8_load 28 = .ok (.iload_n 2, 1) := dX8_load_r28.1
theorem dX8_load_29 : decode cX8_load 29 = .ok (.iaload, 1) := dX8_load_r28.2.1
theorem dX8_load_30 : decode cX8_load 30 = .ok (.invokevirtual 126, 3) := dX8_load_r28.2.2.1
theorem dX8_load_33 : decode cX8_load 33 = .ok (.goto 9, 3) := dX8_load_r28.2.2.2.1
theorem dX8_load_36 : decode cX8_load 36 = .ok (.aload_n 0, 1) := dX8_load_r28.2.2.2.2.1
theorem dX8_load_37 : decode cX8_load 37 = .ok (.bipush (-5), 2) := dX8_load_r28.2.2.2.2.2.1
theorem dX8_load_39 : decode cX8_load 39 = .ok (.invokevirtual 115, 3) := dX8_load_r28.2.2.2.2.2.2.1
theorem dX8_load_42 : decode cX8_load 42 = .ok (.ireturn, 1) := dX8_load_r28.2.2.2.2.2.2.2.1
def wp_171 (v1 : Int32) (v2 : Int32) (m : zf_Me) (Q : Int32 → zf_Me → Prop) : Prop := wp_128 v1 m (fun b1 m2 => ((b1 = true → wp_129 v2 m2 (fun b3 m4 => ((b3 = false → wp_125 (-5) m4 (fun x5 m6 => Q x5 m6)) ∧ (b3 = true → ((0 ≤ (Int32.toInt v2) ∧ (Int32.toInt v2) < (24 : Int)) ∧ wp_165 v1 (m4.1 65 (Int32.toInt v2).toNat) m4 (fun x7 m8 => Q x7 m8)))))) ∧ (b1 = false → wp_125 (-1) m2 (fun x9 m10 => Q x9 m10))))
theorem zr_171 {d : Nat} (hd : 1 ≤ d) {v1 : Int32} {v2 : Int32} {Q : Int32 → zf_Me → Prop} {m : zf_Me} (h : wp_171 v1 v2 m Q) : zf_M d 171 [.inr (.inr (1, 63)), .inl v1, .inl v2] m (zf_I Q) := by
  obtain ⟨e, rfl⟩ : ∃ z, d = z + 1 := ⟨d - 1, by omega⟩
  unfold wp_171 at h
  refine zf_M_of (Nat.le_of_ble_eq_true rfl) zm_171 (L := [some (.inr (.inr (1, 63))), some (.inl v1), some (.inl v2)]) rfl ?_
  refine zf_ld (pc' := 1) (v := .inr (.inr (1, 63))) dX8_load_0 rfl (fun _ _ _ => rfl) rfl rfl rfl ?_
  refine zf_ld (pc' := 2) (v := .inl v1) dX8_load_1 rfl (fun _ _ _ => rfl) rfl rfl rfl ?_
  refine zf_iv (k := 128) (pc' := 5) (r := []) dX8_load_2 rfl rfl rfl rfl (by decide) rfl rfl rfl (zr_128 (by omega) h) (zf_kB (fun b1 m2 h => ?_))
  refine zf_ib_ne (tgt := 14) (pc' := 8) dX8_load_5 rfl rfl (fun g => ?_) (fun g => ?_)
  · replace h := h.1 g
    refine zf_ld (pc' := 15) (v := .inr (.inr (1, 63))) dX8_load_14 rfl (fun _ _ _ => rfl) rfl rfl rfl ?_
    refine zf_ld (pc' := 16) (v := .inl v2) dX8_load_15 rfl (fun _ _ _ => rfl) rfl rfl rfl ?_
    refine zf_iv (k := 129) (pc' := 19) (r := []) dX8_load_16 rfl rfl rfl rfl (by decide) rfl rfl rfl (zr_129 (by omega) h) (zf_kB (fun b3 m4 h => ?_))
    refine zf_ib_eq (tgt := 36) (pc' := 22) dX8_load_19 rfl rfl (fun g => ?_) (fun g => ?_)
    · replace h := h.1 g
      refine zf_ld (pc' := 37) (v := .inr (.inr (1, 63))) dX8_load_36 rfl (fun _ _ _ => rfl) rfl rfl rfl ?_
      refine zf_bi (v := (-5)) (pc' := 39) dX8_load_37 rfl rfl ?_
      refine zf_iv (k := 125) (pc' := 42) (r := []) dX8_load_39 rfl rfl rfl rfl (by decide) rfl rfl rfl (zr_125 (by omega) h) (zf_kI (fun x5 m6 h => ?_))
      exact zf_ri dX8_load_42 rfl h
    · replace h := h.2 g
      refine zf_ld (pc' := 23) (v := .inr (.inr (1, 63))) dX8_load_22 rfl (fun _ _ _ => rfl) rfl rfl rfl ?_
      refine zf_ld (pc' := 24) (v := .inl v1) dX8_load_23 rfl (fun _ _ _ => rfl) rfl rfl rfl ?_
      refine zf_ld (pc' := 25) (v := .inr (.inr (1, 63))) dX8_load_24 rfl (fun _ _ _ => rfl) rfl rfl rfl ?_
      refine zf_gfr (pc' := 28) (b := 65) dX8_load_25 rfl rfl (by decide) rfl rfl ?_
      refine zf_ld (pc' := 29) (v := .inl v2) dX8_load_28 rfl (fun _ _ _ => rfl) rfl rfl rfl ?_
      refine zf_ial (pc' := 30) dX8_load_29 rfl (⟨by decide, rfl⟩ : zf_arr 65 24).1 (⟨by decide, rfl⟩ : zf_arr 65 24).2 h.1 rfl ?_
      replace h := h.2
      refine zf_iv (k := 165) (pc' := 33) (r := []) dX8_load_30 rfl rfl rfl rfl (by decide) rfl rfl rfl (zr_165 (by omega) h) (zf_kI (fun x7 m8 h => ?_))
      refine zf_goto (tgt := 42) dX8_load_33 rfl ?_
      exact zf_ri dX8_load_42 rfl h
  · replace h := h.2 g
    refine zf_ld (pc' := 9) (v := .inr (.inr (1, 63))) dX8_load_8 rfl (fun _ _ _ => rfl) rfl rfl rfl ?_
    refine zf_ic (v := (-1)) (pc' := 10) dX8_load_9 rfl rfl ?_
    refine zf_iv (k := 125) (pc' := 13) (r := []) dX8_load_10 rfl rfl rfl rfl (by decide) rfl rfl rfl (zr_125 (by omega) h) (zf_kI (fun x9 m10 h => ?_))
    exact zf_ri dX8_load_13 rfl h
def zt_172 : zx_MT := (8, yX8_may, cX8_may, 2, (some FieldType.int), 1, 0)
theorem zm_172 : zx_m 172 = zt_172 := rfl
theorem dX8_may_r0 : zdcP cX8_may 0 [(.iload_n 1, 1), (.ifCond .lt 25, 3), (.iload_n 1, 1), (.bipush 9, 2), (.if_icmp .gt 19, 3), (.aload_n 0, 1), (.iload_n 1, 1), (.invokevirtual 180, 3), (.ifCond .eq 7, 3), (.iconst 1, 1), (.goto 13, 3), (.iconst 0, 1), (.goto 9, 3), (.aload_n 0, 1), (.bipush (-6), 2), (.invokevirtual 115, 3)] := zdcA_ok (by decide +kernel)
theorem dX8_may_0 : decode cX8_may 0 = .ok (.iload_n 1, 1) := dX8_may_r0.1
theorem dX8_may_1 : decode cX8_may 1 = .ok (.ifCond .lt 25, 3) := dX8_may_r0.2.1
theorem dX8_may_4 : decode cX8_may 4 = .ok (.iload_n 1, 1) := dX8_may_r0.2.2.1
theorem dX8_may_5 : decode cX8_may 5 = .ok (.bipush 9, 2) := dX8_may_r0.2.2.2.1
theorem dX8_may_7 : decode cX8_may 7 = .ok (.if_icmp .gt 19, 3) := dX8_may_r0.2.2.2.2.1
theorem dX8_may_10 : decode cX8_may 10 = .ok (.aload_n 0, 1) := dX8_may_r0.2.2.2.2.2.1
theorem dX8_may_11 : decode cX8_may 11 = .ok (.iload_n 1, 1) := dX8_may_r0.2.2.2.2.2.2.1
theorem dX8_may_12 : decode cX8_may 12 = .ok (.invokevirtual 180, 3) := dX8_may_r0.2.2.2.2.2.2.2.1
theorem dX8_may_15 : decode cX8_may 15 = .ok (.ifCond .eq 7, 3) := dX8_may_r0.2.2.2.2.2.2.2.2.1
theorem dX8_may_18 : decode cX8_may 18 = .ok (.iconst 1, 1) := dX8_may_r0.2.2.2.2.2.2.2.2.2.1
theorem dX8_may_19 : decode cX8_may 19 = .ok (.goto 13, 3) := dX8_may_r0.2.2.2.2.2.2.2.2.2.2.1
theorem dX8_may_22 : decode cX8_may 22 = .ok (.iconst 0, 1) := dX8_may_r0.2.2.2.2.2.2.2.2.2.2.2.1
theorem dX8_may_23 : decode cX8_may 23 = .ok (.goto 9, 3) := dX8_may_r0.2.2.2.2.2.2.2.2.2.2.2.2.1
theorem dX8_may_26 : decode cX8_may 26 = .ok (.aload_n 0, 1) := dX8_may_r0.2.2.2.2.2.2.2.2.2.2.2.2.2.1
theorem dX8_may_27 : decode cX8_may 27 = .ok (.bipush (-6), 2) := dX8_may_r0.2.2.2.2.2.2.2.2.2.2.2.2.2.2.1
theorem dX8_may_29 : decode cX8_may 29 = .ok (.invokevirtual 115, 3) := dX8_may_r0.2.2.2.2.2.2.2.2.2.2.2.2.2.2.2.1
theorem dX8_may_32 : decode cX8_may 32 = .ok (.ireturn, 1) := zdc_ok (by decide +kernel)
def wp_172 (v1 : Int32) (m : zf_Me) (Q : Int32 → zf_Me → Prop) : Prop := ((v1.toInt < 0 → wp_125 (-6) m (fun x1 m2 => Q x1 m2)) ∧ (v1.toInt ≥ 0 → ((v1.toInt > 9 → wp_125 (-6) m (fun x3 m4 => Q x3 m4)) ∧ (v1.toInt ≤ 9 → wp_167 v1 m (fun b5 m6 => ((b5 = false → Q 0 m6) ∧ (b5 = true → Q 1 m6)))))))
theorem zr_172 {d : Nat} (hd : 3 ≤ d) {v1 : Int32} {Q : Int32 → zf_Me → Prop} {m : zf_Me} (h : wp_172 v1 m Q) : zf_M d 172 [.inr (.inr (1, 63)), .inl v1] m (zf_I Q) := by
  obtain ⟨e, rfl⟩ : ∃ z, d = z + 1 := ⟨d - 1, by omega⟩
  unfold wp_172 at h
  refine zf_M_of (Nat.le_of_ble_eq_true rfl) zm_172 (L := [some (.inr (.inr (1, 63))), some (.inl v1)]) rfl ?_
  refine zf_ld (pc' := 1) (v := .inl v1) dX8_may_0 rfl (fun _ _ _ => rfl) rfl rfl rfl ?_
  refine zf_if_lt (tgt := 26) (pc' := 4) dX8_may_1 rfl rfl (fun g => ?_) (fun g => ?_)
  · replace h := h.1 g
    refine zf_ld (pc' := 27) (v := .inr (.inr (1, 63))) dX8_may_26 rfl (fun _ _ _ => rfl) rfl rfl rfl ?_
    refine zf_bi (v := (-6)) (pc' := 29) dX8_may_27 rfl rfl ?_
    refine zf_iv (k := 125) (pc' := 32) (r := []) dX8_may_29 rfl rfl rfl rfl (by decide) rfl rfl rfl (zr_125 (by omega) h) (zf_kI (fun x1 m2 h => ?_))
    exact zf_ri dX8_may_32 rfl h
  · replace h := h.2 g
    refine zf_ld (pc' := 5) (v := .inl v1) dX8_may_4 rfl (fun _ _ _ => rfl) rfl rfl rfl ?_
    refine zf_bi (v := 9) (pc' := 7) dX8_may_5 rfl rfl ?_
    refine zf_icmp_gt (tgt := 26) (pc' := 10) dX8_may_7 rfl rfl (fun g => ?_) (fun g => ?_)
    · replace h := h.1 g
      refine zf_ld (pc' := 27) (v := .inr (.inr (1, 63))) dX8_may_26 rfl (fun _ _ _ => rfl) rfl rfl rfl ?_
      refine zf_bi (v := (-6)) (pc' := 29) dX8_may_27 rfl rfl ?_
      refine zf_iv (k := 125) (pc' := 32) (r := []) dX8_may_29 rfl rfl rfl rfl (by decide) rfl rfl rfl (zr_125 (by omega) h) (zf_kI (fun x3 m4 h => ?_))
      exact zf_ri dX8_may_32 rfl h
    · replace h := h.2 g
      refine zf_ld (pc' := 11) (v := .inr (.inr (1, 63))) dX8_may_10 rfl (fun _ _ _ => rfl) rfl rfl rfl ?_
      refine zf_ld (pc' := 12) (v := .inl v1) dX8_may_11 rfl (fun _ _ _ => rfl) rfl rfl rfl ?_
      refine zf_iv (k := 167) (pc' := 15) (r := []) dX8_may_12 rfl rfl rfl rfl (by decide) rfl rfl rfl (zr_167 (by omega) h) (zf_kB (fun b5 m6 h => ?_))
      refine zf_ib_eq (tgt := 22) (pc' := 18) dX8_may_15 rfl rfl (fun g => ?_) (fun g => ?_)
      · replace h := h.1 g
        refine zf_ic (v := 0) (pc' := 23) dX8_may_22 rfl rfl ?_
        refine zf_goto (tgt := 32) dX8_may_23 rfl ?_
        exact zf_ri dX8_may_32 rfl h
      · replace h := h.2 g
        refine zf_ic (v := 1) (pc' := 19) dX8_may_18 rfl rfl ?_
        refine zf_goto (tgt := 32) dX8_may_19 rfl ?_
        exact zf_ri dX8_may_32 rfl h
def zt_173 : zx_MT := (8, yX8_next, cX8_next, 3, (some FieldType.int), 0, 0)
theorem zm_173 : zx_m 173 = zt_173 := rfl
theorem dX8_next_r0 : zdcP cX8_next 0 [(.iconst 0, 1), (.istore_n 1, 1), (.iconst 0, 1), (.istore_n 2, 1), (.iload_n 2, 1), (.bipush 9, 2), (.if_icmp .gt 23, 3), (.aload_n 0, 1), (.iload_n 2, 1), (.invokevirtual 180, 3), (.ifCond .eq 9, 3), (.iload_n 1, 1), (.iconst 1, 1), (.iload_n 2, 1), (.ishl, 1), (.ior, 1)] := zdcA_ok (by decide +kernel)
theorem dX8_next_0 : decode cX8_next 0 = .ok (.iconst 0, 1) := dX8_next_r0.1
theorem dX8_next_1 : decode cX8_next 1 = .ok (.istore_n 1, 1) := dX8_next_r0.2.1
theorem dX8_next_2 : decode cX8_next 2 = .ok (.iconst 0, 1) := dX8_next_r0.2.2.1
theorem dX8_next_3 : decode cX8_next 3 = .ok (.istore_n 2, 1) := dX8_next_r0.2.2.2.1
theorem dX8_next_4 : decode cX8_next 4 = .ok (.iload_n 2, 1) := dX8_next_r0.2.2.2.2.1
theorem dX8_next_5 : decode cX8_next 5 = .ok (.bipush 9, 2) := dX8_next_r0.2.2.2.2.2.1
theorem dX8_next_7 : decode cX8_next 7 = .ok (.if_icmp .gt 23, 3) := dX8_next_r0.2.2.2.2.2.2.1
theorem dX8_next_10 : decode cX8_next 10 = .ok (.aload_n 0, 1) := dX8_next_r0.2.2.2.2.2.2.2.1
theorem dX8_next_11 : decode cX8_next 11 = .ok (.iload_n 2, 1) := dX8_next_r0.2.2.2.2.2.2.2.2.1
theorem dX8_next_12 : decode cX8_next 12 = .ok (.invokevirtual 180, 3) := dX8_next_r0.2.2.2.2.2.2.2.2.2.1
theorem dX8_next_15 : decode cX8_next 15 = .ok (.ifCond .eq 9, 3) := dX8_next_r0.2.2.2.2.2.2.2.2.2.2.1
theorem dX8_next_18 : decode cX8_next 18 = .ok (.iload_n 1, 1) := dX8_next_r0.2.2.2.2.2.2.2.2.2.2.2.1
theorem dX8_next_19 : decode cX8_next 19 = .ok (.iconst 1, 1) := dX8_next_r0.2.2.2.2.2.2.2.2.2.2.2.2.1
theorem dX8_next_20 : decode cX8_next 20 = .ok (.iload_n 2, 1) := dX8_next_r0.2.2.2.2.2.2.2.2.2.2.2.2.2.1
theorem dX8_next_21 : decode cX8_next 21 = .ok (.ishl, 1) := dX8_next_r0.2.2.2.2.2.2.2.2.2.2.2.2.2.2.1
theorem dX8_next_22 : decode cX8_next 22 = .ok (.ior, 1) := dX8_next_r0.2.2.2.2.2.2.2.2.2.2.2.2.2.2.2.1
theorem dX8_next_r23 : zdcP cX8_next 23 [(.istore_n 1, 1), (.iinc 2 1, 3), (.goto (-23), 3), (.iload_n 1, 1), (.ireturn, 1)] := zdcA_ok (by decide +kernel)
theorem dX8_next_23 : decode cX8_next 23 = .ok (.istore_n 1, 1) := dX8_next_r23.1
theorem dX8_next_24 : decode cX8_next 24 = .ok (.iinc 2 1, 3) := dX8_next_r23.2.1
theorem dX8_next_27 : decode cX8_next 27 = .ok (.goto (-23), 3) := dX8_next_r23.2.2.1
theorem dX8_next_30 : decode cX8_next 30 = .ok (.iload_n 1, 1) := dX8_next_r23.2.2.2.1
theorem dX8_next_31 : decode cX8_next 31 = .ok (.ireturn, 1) := dX8_next_r23.2.2.2.2.1
def wq_173_4 (Q : Int32 → zf_Me → Prop) : Nat → Int32 → Int32 → zf_Me → Prop
  | 0, _, _, _ => False
  | n + 1, v1, v2, m => ((v2.toInt > 9 → Q v1 m) ∧ (v2.toInt ≤ 9 → wp_167 v2 m (fun b1 m2 => ((b1 = false → wq_173_4 Q n v1 (v2 + 1) m2) ∧ (b1 = true → wq_173_4 Q n (v1 ||| (1 <<< (v2 &&& 31))) (v2 + 1) m2)))))
theorem zq_173_4 {d : Nat} (hd : 3 ≤ d) {Q : Int32 → zf_Me → Prop} : ∀ (n : Nat) (v1 : Int32) (v2 : Int32) (m : zf_Me), wq_173_4 Q n v1 v2 m → zf_W none 0 0 d zt_173 4 [some (.inr (.inr (1, 63))), some (.inl v1), some (.inl v2)] [] m (zf_I Q) := by
  obtain ⟨e, rfl⟩ : ∃ z, d = z + 1 := ⟨d - 1, by omega⟩
  intro n
  induction n with
  | zero =>
    intro v1 v2 m h
    exact h.elim
  | succ n ih =>
    intro v1 v2 m h
    unfold wq_173_4 at h
    refine zf_ld (pc' := 5) (v := .inl v2) dX8_next_4 rfl (fun _ _ _ => rfl) rfl rfl rfl ?_
    refine zf_bi (v := 9) (pc' := 7) dX8_next_5 rfl rfl ?_
    refine zf_icmp_gt (tgt := 30) (pc' := 10) dX8_next_7 rfl rfl (fun g => ?_) (fun g => ?_)
    · replace h := h.1 g
      refine zf_ld (pc' := 31) (v := .inl v1) dX8_next_30 rfl (fun _ _ _ => rfl) rfl rfl rfl ?_
      exact zf_ri dX8_next_31 rfl h
    · replace h := h.2 g
      refine zf_ld (pc' := 11) (v := .inr (.inr (1, 63))) dX8_next_10 rfl (fun _ _ _ => rfl) rfl rfl rfl ?_
      refine zf_ld (pc' := 12) (v := .inl v2) dX8_next_11 rfl (fun _ _ _ => rfl) rfl rfl rfl ?_
      refine zf_iv (k := 167) (pc' := 15) (r := []) dX8_next_12 rfl rfl rfl rfl (by decide) rfl rfl rfl (zr_167 (by omega) h) (zf_kB (fun b1 m2 h => ?_))
      refine zf_ib_eq (tgt := 24) (pc' := 18) dX8_next_15 rfl rfl (fun g => ?_) (fun g => ?_)
      · replace h := h.1 g
        refine zf_ii (y := (v2 + 1)) (L2 := [some (.inr (.inr (1, 63))), some (.inl v1), some (.inl (v2 + 1))]) (pc' := 27) dX8_next_24 rfl rfl rfl rfl rfl ?_
        refine zf_goto (tgt := 4) dX8_next_27 rfl ?_
        exact zf_lo (ih _ _ _ h) ⟨rfl, rfl, rfl, trivial⟩
      · replace h := h.2 g
        refine zf_ld (pc' := 19) (v := .inl v1) dX8_next_18 rfl (fun _ _ _ => rfl) rfl rfl rfl ?_
        refine zf_ic (v := 1) (pc' := 20) dX8_next_19 rfl rfl ?_
        refine zf_ld (pc' := 21) (v := .inl v2) dX8_next_20 rfl (fun _ _ _ => rfl) rfl rfl rfl ?_
        refine zf_in (pc' := 22) (S' := [.inl (1 <<< (v2 &&& 31)), .inl v1]) dX8_next_21 rfl (fun _ _ _ => rfl) ?_
        refine zf_in (pc' := 23) (S' := [.inl (v1 ||| (1 <<< (v2 &&& 31)))]) dX8_next_22 rfl (fun _ _ _ => rfl) ?_
        refine zf_st (pc' := 24) (L2 := [some (.inr (.inr (1, 63))), some (.inl (v1 ||| (1 <<< (v2 &&& 31)))), some (.inl v2)]) dX8_next_23 rfl (fun _ _ _ => rfl) rfl rfl rfl rfl rfl rfl ?_
        refine zf_ii (y := (v2 + 1)) (L2 := [some (.inr (.inr (1, 63))), some (.inl (v1 ||| (1 <<< (v2 &&& 31)))), some (.inl (v2 + 1))]) (pc' := 27) dX8_next_24 rfl rfl rfl rfl rfl ?_
        refine zf_goto (tgt := 4) dX8_next_27 rfl ?_
        exact zf_lo (ih _ _ _ h) ⟨rfl, rfl, rfl, trivial⟩
def wp_173 (m : zf_Me) (Q : Int32 → zf_Me → Prop) : Prop := (∃ n4, wq_173_4 Q n4 0 0 m)
theorem zr_173 {d : Nat} (hd : 3 ≤ d) {Q : Int32 → zf_Me → Prop} {m : zf_Me} (h : wp_173 m Q) : zf_M d 173 [.inr (.inr (1, 63))] m (zf_I Q) := by
  unfold wp_173 at h
  refine zf_M_of (Nat.le_of_ble_eq_true rfl) zm_173 (L := [some (.inr (.inr (1, 63))), none, none]) rfl ?_
  refine zf_ic (v := 0) (pc' := 1) dX8_next_0 rfl rfl ?_
  refine zf_st (pc' := 2) (L2 := [some (.inr (.inr (1, 63))), some (.inl 0), none]) dX8_next_1 rfl (fun _ _ _ => rfl) rfl rfl rfl rfl rfl rfl ?_
  refine zf_ic (v := 0) (pc' := 3) dX8_next_2 rfl rfl ?_
  refine zf_st (pc' := 4) (L2 := [some (.inr (.inr (1, 63))), some (.inl 0), some (.inl 0)]) dX8_next_3 rfl (fun _ _ _ => rfl) rfl rfl rfl rfl rfl rfl ?_
  obtain ⟨n4, h⟩ := h
  exact zf_lo (zq_173_4 (by omega) n4 _ _ _ h) ⟨rfl, rfl, rfl, trivial⟩
def zt_174 : zx_MT := (8, yX8_looks, cX8_looks, 7, none, 3, 0)
theorem zm_174 : zx_m 174 = zt_174 := rfl
theorem dX8_looks_r0 : zdcP cX8_looks 0 [(.iload_n 1, 1), (.iload_n 2, 1), (.if_icmp .eq 14, 3), (.aload_n 0, 1), (.getfield 207, 3), (.aload_n 0, 1), (.getfield 108, 3), (.if_icmp .ne 7, 3), (.iconst 0, 1), (.goto 7, 3), (.aload_n 0, 1), (.invokevirtual 226, 3), (.istore 4, 2), (.iload 4, 2), (.ifCond .ne 129, 3), (.aload_n 0, 1)] := zdcA_ok (by decide +kernel)
theorem dX8_looks_0 : decode cX8_looks 0 = .ok (.iload_n 1, 1) := dX8_looks_r0.1
theorem dX8_looks_1 : decode cX8_looks 1 = .ok (.iload_n 2, 1) := dX8_looks_r0.2.1
theorem dX8_looks_2 : decode cX8_looks 2 = .ok (.if_icmp .eq 14, 3) := dX8_looks_r0.2.2.1
theorem dX8_looks_5 : decode cX8_looks 5 = .ok (.aload_n 0, 1) := dX8_looks_r0.2.2.2.1
theorem dX8_looks_6 : decode cX8_looks 6 = .ok (.getfield 207, 3) := dX8_looks_r0.2.2.2.2.1
theorem dX8_looks_9 : decode cX8_looks 9 = .ok (.aload_n 0, 1) := dX8_looks_r0.2.2.2.2.2.1
theorem dX8_looks_10 : decode cX8_looks 10 = .ok (.getfield 108, 3) := dX8_looks_r0.2.2.2.2.2.2.1
theorem dX8_looks_13 : decode cX8_looks 13 = .ok (.if_icmp .ne 7, 3) := dX8_looks_r0.2.2.2.2.2.2.2.1
theorem dX8_looks_16 : decode cX8_looks 16 = .ok (.iconst 0, 1) := dX8_looks_r0.2.2.2.2.2.2.2.2.1
theorem dX8_looks_17 : decode cX8_looks 17 = .ok (.goto 7, 3) := dX8_looks_r0.2.2.2.2.2.2.2.2.2.1
theorem dX8_looks_20 : decode cX8_looks 20 = .ok (.aload_n 0, 1) := dX8_looks_r0.2.2.2.2.2.2.2.2.2.2.1
theorem dX8_looks_21 : decode cX8_looks 21 = .ok (.invokevirtual 226, 3) := dX8_looks_r0.2.2.2.2.2.2.2.2.2.2.2.1
theorem dX8_looks_24 : decode cX8_looks 24 = .ok (.istore 4, 2) := dX8_looks_r0.2.2.2.2.2.2.2.2.2.2.2.2.1
theorem dX8_looks_26 : decode cX8_looks 26 = .ok (.iload 4, 2) := dX8_looks_r0.2.2.2.2.2.2.2.2.2.2.2.2.2.1
theorem dX8_looks_28 : decode cX8_looks 28 = .ok (.ifCond .ne 129, 3) := dX8_looks_r0.2.2.2.2.2.2.2.2.2.2.2.2.2.2.1
theorem dX8_looks_31 : decode cX8_looks 31 = .ok (.aload_n 0, 1) := dX8_looks_r0.2.2.2.2.2.2.2.2.2.2.2.2.2.2.2.1
theorem dX8_looks_r32 : zdcP cX8_looks 32 [(.getfield 229, 3), (.iconst (-1), 1), (.if_icmp .eq 52, 3), (.aload_n 0, 1), (.getfield 207, 3), (.aload_n 0, 1), (.getfield 232, 3), (.if_icmp .gt 41, 3), (.aload_n 0, 1), (.getfield 207, 3), (.aload_n 0, 1), (.getfield 232, 3), (.if_icmp .ne 34, 3), (.iload_n 3, 1), (.aload_n 0, 1), (.getfield 235, 3)] := zdcA_ok (by decide +kernel)
theorem dX8_looks_32 : decode cX8_looks 32 = .ok (.getfield 229, 3) := dX8_looks_r32.1
theorem dX8_looks_35 : decode cX8_looks 35 = .ok (.iconst (-1), 1) := dX8_looks_r32.2.1
theorem dX8_looks_36 : decode cX8_looks 36 = .ok (.if_icmp .eq 52, 3) := dX8_looks_r32.2.2.1
theorem dX8_looks_39 : decode cX8_looks 39 = .ok (.aload_n 0, 1) := dX8_looks_r32.2.2.2.1
theorem dX8_looks_40 : decode cX8_looks 40 = .ok (.getfield 207, 3) := dX8_looks_r32.2.2.2.2.1
theorem dX8_looks_43 : decode cX8_looks 43 = .ok (.aload_n 0, 1) := dX8_looks_r32.2.2.2.2.2.1
theorem dX8_looks_44 : decode cX8_looks 44 = .ok (.getfield 232, 3) := dX8_looks_r32.2.2.2.2.2.2.1
theorem dX8_looks_47 : decode cX8_looks 47 = .ok (.if_icmp .gt 41, 3) := dX8_looks_r32.2.2.2.2.2.2.2.1
theorem dX8_looks_50 : decode cX8_looks 50 = .ok (.aload_n 0, 1) := dX8_looks_r32.2.2.2.2.2.2.2.2.1
theorem dX8_looks_51 : decode cX8_looks 51 = .ok (.getfield 207, 3) := dX8_looks_r32.2.2.2.2.2.2.2.2.2.1
theorem dX8_looks_54 : decode cX8_looks 54 = .ok (.aload_n 0, 1) := dX8_looks_r32.2.2.2.2.2.2.2.2.2.2.1
theorem dX8_looks_55 : decode cX8_looks 55 = .ok (.getfield 232, 3) := dX8_looks_r32.2.2.2.2.2.2.2.2.2.2.2.1
theorem dX8_looks_58 : decode cX8_looks 58 = .ok (.if_icmp .ne 34, 3) := dX8_looks_r32.2.2.2.2.2.2.2.2.2.2.2.2.1
theorem dX8_looks_61 : decode cX8_looks 61 = .ok (.iload_n 3, 1) := dX8_looks_r32.2.2.2.2.2.2.2.2.2.2.2.2.2.1
theorem dX8_looks_62 : decode cX8_looks 62 = .ok (.aload_n 0, 1) := dX8_looks_r32.2.2.2.2.2.2.2.2.2.2.2.2.2.2.1
theorem dX8_looks_63 : decode cX8_looks 63 = .ok (.getfield 235, 3) := dX8_looks_r32.2.2.2.2.2.2.2.2.2.2.2.2.2.2.2.1
theorem dX8_looks_r66 : zdcP cX8_looks 66 [(.if_icmp .lt 22, 3), (.iload_n 3, 1), (.aload_n 0, 1), (.getfield 235, 3), (.if_icmp .ne 18, 3), (.aload_n 0, 1), (.getfield 210, 3), (.aload_n 0, 1), (.getfield 238, 3), (.if_icmp .ge 7, 3), (.iconst 1, 1), (.goto 4, 3), (.iconst 0, 1), (.istore 5, 2), (.iload 5, 2), (.ifCond .ne 4, 3)] := zdcA_ok (by decide +kernel)
theorem dX8_looks_66 : decode cX8_looks 66 = .ok (.if_icmp .lt 22, 3) := dX8_looks_r66.1
theorem dX8_looks_69 : decode cX8_looks 69 = .ok (.iload_n 3, 1) := dX8_looks_r66.2.1
theorem dX8_looks_70 : decode cX8_looks 70 = .ok (.aload_n 0, 1) := dX8_looks_r66.2.2.1
theorem dX8_looks_71 : decode cX8_looks 71 = .ok (.getfield 235, 3) := dX8_looks_r66.2.2.2.1
theorem dX8_looks_74 : decode cX8_looks 74 = .ok (.if_icmp .ne 18, 3) := dX8_looks_r66.2.2.2.2.1
theorem dX8_looks_77 : decode cX8_looks 77 = .ok (.aload_n 0, 1) := dX8_looks_r66.2.2.2.2.2.1
theorem dX8_looks_78 : decode cX8_looks 78 = .ok (.getfield 210, 3) := dX8_looks_r66.2.2.2.2.2.2.1
theorem dX8_looks_81 : decode cX8_looks 81 = .ok (.aload_n 0, 1) := dX8_looks_r66.2.2.2.2.2.2.2.1
theorem dX8_looks_82 : decode cX8_looks 82 = .ok (.getfield 238, 3) := dX8_looks_r66.2.2.2.2.2.2.2.2.1
theorem dX8_looks_85 : decode cX8_looks 85 = .ok (.if_icmp .ge 7, 3) := dX8_looks_r66.2.2.2.2.2.2.2.2.2.1
theorem dX8_looks_88 : decode cX8_looks 88 = .ok (.iconst 1, 1) := dX8_looks_r66.2.2.2.2.2.2.2.2.2.2.1
theorem dX8_looks_89 : decode cX8_looks 89 = .ok (.goto 4, 3) := dX8_looks_r66.2.2.2.2.2.2.2.2.2.2.2.1
theorem dX8_looks_92 : decode cX8_looks 92 = .ok (.iconst 0, 1) := dX8_looks_r66.2.2.2.2.2.2.2.2.2.2.2.2.1
theorem dX8_looks_93 : decode cX8_looks 93 = .ok (.istore 5, 2) := dX8_looks_r66.2.2.2.2.2.2.2.2.2.2.2.2.2.1
theorem dX8_looks_95 : decode cX8_looks 95 = .ok (.iload 5, 2) := dX8_looks_r66.2.2.2.2.2.2.2.2.2.2.2.2.2.2.1
theorem dX8_looks_97 : decode cX8_looks 97 = .ok (.ifCond .ne 4, 3) := dX8_looks_r66.2.2.2.2.2.2.2.2.2.2.2.2.2.2.2.1
theorem dX8_looks_r100 : zdcP cX8_looks 100 [(.return_, 1), (.aload_n 0, 1), (.iload_n 1, 1), (.putfield 229, 3), (.aload_n 0, 1), (.aload_n 0, 1), (.getfield 207, 3), (.putfield 232, 3), (.aload_n 0, 1), (.iload_n 3, 1), (.putfield 235, 3), (.aload_n 0, 1), (.aload_n 0, 1), (.getfield 210, 3), (.putfield 238, 3), (.iconst 0, 1)] := zdcA_ok (by decide +kernel)
theorem dX8_looks_100 : decode cX8_looks 100 = .ok (.return_, 1) := dX8_looks_r100.1
theorem dX8_looks_101 : decode cX8_looks 101 = .ok (.aload_n 0, 1) := dX8_looks_r100.2.1
theorem dX8_looks_102 : decode cX8_looks 102 = .ok (.iload_n 1, 1) := dX8_looks_r100.2.2.1
theorem dX8_looks_103 : decode cX8_looks 103 = .ok (.putfield 229, 3) := dX8_looks_r100.2.2.2.1
theorem dX8_looks_106 : decode cX8_looks 106 = .ok (.aload_n 0, 1) := dX8_looks_r100.2.2.2.2.1
theorem dX8_looks_107 : decode cX8_looks 107 = .ok (.aload_n 0, 1) := dX8_looks_r100.2.2.2.2.2.1
theorem dX8_looks_108 : decode cX8_looks 108 = .ok (.getfield 207, 3) := dX8_looks_r100.2.2.2.2.2.2.1
theorem dX8_looks_111 : decode cX8_looks 111 = .ok (.putfield 232, 3) := dX8_looks_r100.2.2.2.2.2.2.2.1
theorem dX8_looks_114 : decode cX8_looks 114 = .ok (.aload_n 0, 1) := dX8_looks_r100.2.2.2.2.2.2.2.2.1
theorem dX8_looks_115 : decode cX8_looks 115 = .ok (.iload_n 3, 1) := dX8_looks_r100.2.2.2.2.2.2.2.2.2.1
theorem dX8_looks_116 : decode cX8_looks 116 = .ok (.putfield 235, 3) := dX8_looks_r100.2.2.2.2.2.2.2.2.2.2.1
theorem dX8_looks_119 : decode cX8_looks 119 = .ok (.aload_n 0, 1) := dX8_looks_r100.2.2.2.2.2.2.2.2.2.2.2.1
theorem dX8_looks_120 : decode cX8_looks 120 = .ok (.aload_n 0, 1) := dX8_looks_r100.2.2.2.2.2.2.2.2.2.2.2.2.1
theorem dX8_looks_121 : decode cX8_looks 121 = .ok (.getfield 210, 3) := dX8_looks_r100.2.2.2.2.2.2.2.2.2.2.2.2.2.1
theorem dX8_looks_124 : decode cX8_looks 124 = .ok (.putfield 238, 3) := dX8_looks_r100.2.2.2.2.2.2.2.2.2.2.2.2.2.2.1
theorem dX8_looks_127 : decode cX8_looks 127 = .ok (.iconst 0, 1) := dX8_looks_r100.2.2.2.2.2.2.2.2.2.2.2.2.2.2.2.1
theorem dX8_looks_r128 : zdcP cX8_looks 128 [(.istore 6, 2), (.iload 6, 2), (.iload_n 1, 1), (.if_icmp .ge 23, 3), (.aload_n 0, 1), (.getfield 99, 3), (.iload 6, 2), (.aload_n 0, 1), (.getfield 96, 3), (.iload 6, 2), (.iaload, 1), (.iastore, 1), (.iinc 6 1, 3), (.goto (-23), 3), (.return_, 1), (.aload_n 0, 1)] := zdcA_ok (by decide +kernel)
theorem dX8_looks_128 : decode cX8_looks 128 = .ok (.istore 6, 2) := dX8_looks_r128.1
theorem dX8_looks_130 : decode cX8_looks 130 = .ok (.iload 6, 2) := dX8_looks_r128.2.1
theorem dX8_looks_132 : decode cX8_looks 132 = .ok (.iload_n 1, 1) := dX8_looks_r128.2.2.1
theorem dX8_looks_133 : decode cX8_looks 133 = .ok (.if_icmp .ge 23, 3) := dX8_looks_r128.2.2.2.1
theorem dX8_looks_136 : decode cX8_looks 136 = .ok (.aload_n 0, 1) := dX8_looks_r128.2.2.2.2.1
theorem dX8_looks_137 : decode cX8_looks 137 = .ok (.getfield 99, 3) := dX8_looks_r128.2.2.2.2.2.1
theorem dX8_looks_140 : decode cX8_looks 140 = .ok (.iload 6, 2) := dX8_looks_r128.2.2.2.2.2.2.1
theorem dX8_looks_142 : decode cX8_looks 142 = .ok (.aload_n 0, 1) := dX8_looks_r128.2.2.2.2.2.2.2.1
theorem dX8_looks_143 : decode cX8_looks 143 = .ok (.getfield 96, 3) := dX8_looks_r128.2.2.2.2.2.2.2.2.1
theorem dX8_looks_146 : decode cX8_looks 146 = .ok (.iload 6, 2) := dX8_looks_r128.2.2.2.2.2.2.2.2.2.1
theorem dX8_looks_148 : decode cX8_looks 148 = .ok (.iaload, 1) := dX8_looks_r128.2.2.2.2.2.2.2.2.2.2.1
theorem dX8_looks_149 : decode cX8_looks 149 = .ok (.iastore, 1) := dX8_looks_r128.2.2.2.2.2.2.2.2.2.2.2.1
theorem dX8_looks_150 : decode cX8_looks 150 = .ok (.iinc 6 1, 3) := dX8_looks_r128.2.2.2.2.2.2.2.2.2.2.2.2.1
theorem dX8_looks_153 : decode cX8_looks 153 = .ok (.goto (-23), 3) := dX8_looks_r128.2.2.2.2.2.2.2.2.2.2.2.2.2.1
theorem dX8_looks_156 : decode cX8_looks 156 = .ok (.return_, 1) := dX8_looks_r128.2.2.2.2.2.2.2.2.2.2.2.2.2.2.1
theorem dX8_looks_157 : decode cX8_looks 157 = .ok (.aload_n 0, 1) := dX8_looks_r128.2.2.2.2.2.2.2.2.2.2.2.2.2.2.2.1
theorem dX8_looks_r158 : zdcP cX8_looks 158 [(.aload_n 0, 1), (.getfield 93, 3), (.bipush 90, 2), (.iload_n 1, 1), (.imul, 1), (.iconst 0, 1), (.invokevirtual 213, 3), (.iconst 0, 1), (.istore 5, 2), (.iload 5, 2), (.bipush 9, 2), (.if_icmp .gt 75, 3), (.iload 4, 2), (.iload 5, 2), (.ishr, 1), (.iconst 1, 1)] := zdcA_ok (by decide +kernel)
theorem dX8_looks_158 : decode cX8_looks 158 = .ok (.aload_n 0, 1) := dX8_looks_r158.1
theorem dX8_looks_159 : decode cX8_looks 159 = .ok (.getfield 93, 3) := dX8_looks_r158.2.1
theorem dX8_looks_162 : decode cX8_looks 162 = .ok (.bipush 90, 2) := dX8_looks_r158.2.2.1
theorem dX8_looks_164 : decode cX8_looks 164 = .ok (.iload_n 1, 1) := dX8_looks_r158.2.2.2.1
theorem dX8_looks_165 : decode cX8_looks 165 = .ok (.imul, 1) := dX8_looks_r158.2.2.2.2.1
theorem dX8_looks_166 : decode cX8_looks 166 = .ok (.iconst 0, 1) := dX8_looks_r158.2.2.2.2.2.1
theorem dX8_looks_167 : decode cX8_looks 167 = .ok (.invokevirtual 213, 3) := dX8_looks_r158.2.2.2.2.2.2.1
theorem dX8_looks_170 : decode cX8_looks 170 = .ok (.iconst 0, 1) := dX8_looks_r158.2.2.2.2.2.2.2.1
theorem dX8_looks_171 : decode cX8_looks 171 = .ok (.istore 5, 2) := dX8_looks_r158.2.2.2.2.2.2.2.2.1
theorem dX8_looks_173 : decode cX8_looks 173 = .ok (.iload 5, 2) := dX8_looks_r158.2.2.2.2.2.2.2.2.2.1
theorem dX8_looks_175 : decode cX8_looks 175 = .ok (.bipush 9, 2) := dX8_looks_r158.2.2.2.2.2.2.2.2.2.2.1
theorem dX8_looks_177 : decode cX8_looks 177 = .ok (.if_icmp .gt 75, 3) := dX8_looks_r158.2.2.2.2.2.2.2.2.2.2.2.1
theorem dX8_looks_180 : decode cX8_looks 180 = .ok (.iload 4, 2) := dX8_looks_r158.2.2.2.2.2.2.2.2.2.2.2.2.1
theorem dX8_looks_182 : decode cX8_looks 182 = .ok (.iload 5, 2) := dX8_looks_r158.2.2.2.2.2.2.2.2.2.2.2.2.2.1
theorem dX8_looks_184 : decode cX8_looks 184 = .ok (.ishr, 1) := dX8_looks_r158.2.2.2.2.2.2.2.2.2.2.2.2.2.2.1
theorem dX8_looks_185 : decode cX8_looks 185 = .ok (.iconst 1, 1) := dX8_looks_r158.2.2.2.2.2.2.2.2.2.2.2.2.2.2.2.1
theorem dX8_looks_r186 : zdcP cX8_looks 186 [(.iand, 1), (.ifCond .ne 6, 3), (.goto 56, 3), (.aload_n 0, 1), (.getfield 96, 3), (.iload_n 1, 1), (.iload 5, 2), (.iastore, 1), (.aload_n 0, 1), (.iload 5, 2), (.invokevirtual 196, 3), (.aload_n 0, 1), (.invokevirtual 241, 3), (.istore 6, 2), (.aload_n 0, 1), (.iload_n 1, 1)] := zdcA_ok (by decide +kernel)
theorem dX8_looks_186 : decode cX8_looks 186 = .ok (.iand, 1) := dX8_looks_r186.1
theorem dX8_looks_187 : decode cX8_looks 187 = .ok (.ifCond .ne 6, 3) := dX8_looks_r186.2.1
theorem dX8_looks_190 : decode cX8_looks 190 = .ok (.goto 56, 3) := dX8_looks_r186.2.2.1
theorem dX8_looks_193 : decode cX8_looks 193 = .ok (.aload_n 0, 1) := dX8_looks_r186.2.2.2.1
theorem dX8_looks_194 : decode cX8_looks 194 = .ok (.getfield 96, 3) := dX8_looks_r186.2.2.2.2.1
theorem dX8_looks_197 : decode cX8_looks 197 = .ok (.iload_n 1, 1) := dX8_looks_r186.2.2.2.2.2.1
theorem dX8_looks_198 : decode cX8_looks 198 = .ok (.iload 5, 2) := dX8_looks_r186.2.2.2.2.2.2.1
theorem dX8_looks_200 : decode cX8_looks 200 = .ok (.iastore, 1) := dX8_looks_r186.2.2.2.2.2.2.2.1
theorem dX8_looks_201 : decode cX8_looks 201 = .ok (.aload_n 0, 1) := dX8_looks_r186.2.2.2.2.2.2.2.2.1
theorem dX8_looks_202 : decode cX8_looks 202 = .ok (.iload 5, 2) := dX8_looks_r186.2.2.2.2.2.2.2.2.2.1
theorem dX8_looks_204 : decode cX8_looks 204 = .ok (.invokevirtual 196, 3) := dX8_looks_r186.2.2.2.2.2.2.2.2.2.2.1
theorem dX8_looks_207 : decode cX8_looks 207 = .ok (.aload_n 0, 1) := dX8_looks_r186.2.2.2.2.2.2.2.2.2.2.2.1
theorem dX8_looks_208 : decode cX8_looks 208 = .ok (.invokevirtual 241, 3) := dX8_looks_r186.2.2.2.2.2.2.2.2.2.2.2.2.1
theorem dX8_looks_211 : decode cX8_looks 211 = .ok (.istore 6, 2) := dX8_looks_r186.2.2.2.2.2.2.2.2.2.2.2.2.2.1
theorem dX8_looks_213 : decode cX8_looks 213 = .ok (.aload_n 0, 1) := dX8_looks_r186.2.2.2.2.2.2.2.2.2.2.2.2.2.2.1
theorem dX8_looks_214 : decode cX8_looks 214 = .ok (.iload_n 1, 1) := dX8_looks_r186.2.2.2.2.2.2.2.2.2.2.2.2.2.2.2.1
theorem dX8_looks_r215 : zdcP cX8_looks 215 [(.iconst 1, 1), (.iadd, 1), (.iload_n 2, 1), (.iload 6, 2), (.iload_n 3, 1), (.if_icmp .le 8, 3), (.iload 6, 2), (.goto 4, 3), (.iload_n 3, 1), (.invokevirtual 244, 3), (.aload_n 0, 1), (.aload_n 0, 1), (.getfield 93, 3), (.bipush 90, 2), (.iload_n 1, 1), (.imul, 1)] := zdcA_ok (by decide +kernel)
theorem dX8_looks_215 : decode cX8_looks 215 = .ok (.iconst 1, 1) := dX8_looks_r215.1
theorem dX8_looks_216 : decode cX8_looks 216 = .ok (.iadd, 1) := dX8_looks_r215.2.1
theorem dX8_looks_217 : decode cX8_looks 217 = .ok (.iload_n 2, 1) := dX8_looks_r215.2.2.1
theorem dX8_looks_218 : decode cX8_looks 218 = .ok (.iload 6, 2) := dX8_looks_r215.2.2.2.1
theorem dX8_looks_220 : decode cX8_looks 220 = .ok (.iload_n 3, 1) := dX8_looks_r215.2.2.2.2.1
theorem dX8_looks_221 : decode cX8_looks 221 = .ok (.if_icmp .le 8, 3) := dX8_looks_r215.2.2.2.2.2.1
theorem dX8_looks_224 : decode cX8_looks 224 = .ok (.iload 6, 2) := dX8_looks_r215.2.2.2.2.2.2.1
theorem dX8_looks_226 : decode cX8_looks 226 = .ok (.goto 4, 3) := dX8_looks_r215.2.2.2.2.2.2.2.1
theorem dX8_looks_229 : decode cX8_looks 229 = .ok (.iload_n 3, 1) := dX8_looks_r215.2.2.2.2.2.2.2.2.1
theorem dX8_looks_230 : decode cX8_looks 230 = .ok (.invokevirtual 244, 3) := dX8_looks_r215.2.2.2.2.2.2.2.2.2.1
theorem dX8_looks_233 : decode cX8_looks 233 = .ok (.aload_n 0, 1) := dX8_looks_r215.2.2.2.2.2.2.2.2.2.2.1
theorem dX8_looks_234 : decode cX8_looks 234 = .ok (.aload_n 0, 1) := dX8_looks_r215.2.2.2.2.2.2.2.2.2.2.2.1
theorem dX8_looks_235 : decode cX8_looks 235 = .ok (.getfield 93, 3) := dX8_looks_r215.2.2.2.2.2.2.2.2.2.2.2.2.1
theorem dX8_looks_238 : decode cX8_looks 238 = .ok (.bipush 90, 2) := dX8_looks_r215.2.2.2.2.2.2.2.2.2.2.2.2.2.1
theorem dX8_looks_240 : decode cX8_looks 240 = .ok (.iload_n 1, 1) := dX8_looks_r215.2.2.2.2.2.2.2.2.2.2.2.2.2.2.1
theorem dX8_looks_241 : decode cX8_looks 241 = .ok (.imul, 1) := dX8_looks_r215.2.2.2.2.2.2.2.2.2.2.2.2.2.2.2.1
theorem dX8_looks_r242 : zdcP cX8_looks 242 [(.iconst 1, 1), (.invokevirtual 213, 3), (.iinc 5 1, 3), (.goto (-76), 3), (.return_, 1)] := zdcA_ok (by decide +kernel)
theorem dX8_looks_242 : decode cX8_looks 242 = .ok (.iconst 1, 1) := dX8_looks_r242.1
theorem dX8_looks_243 : decode cX8_looks 243 = .ok (.invokevirtual 213, 3) := dX8_looks_r242.2.1
theorem dX8_looks_246 : decode cX8_looks 246 = .ok (.iinc 5 1, 3) := dX8_looks_r242.2.2.1
theorem dX8_looks_249 : decode cX8_looks 249 = .ok (.goto (-76), 3) := dX8_looks_r242.2.2.2.1
theorem dX8_looks_252 : decode cX8_looks 252 = .ok (.return_, 1) := dX8_looks_r242.2.2.2.2.1
def wq_174_230 (R : Int32 → Int32 → Int32 → zf_Me → (zf_Me → Prop) → Prop) (v1 : Int32) (v2 : Int32) (v3 : Int32) (F173 : Int32 → Int32 → zf_Me → Prop) (v4 : Int32) (v5 : Int32) (u0 : Int32) (u1 : Int32) (u2 : Int32) (m : zf_Me) (Q : zf_Me → Prop) : Prop := R u2 u1 u0 m (fun m10 => wp_161 82 450 (90 * v1) 1 m10 (fun m12 => F173 v4 (v5 + 1) m12))
theorem zq_174_230 {e : Nat} (hd : 3 ≤ e) {R : Int32 → Int32 → Int32 → zf_Me → (zf_Me → Prop) → Prop} (hR : ∀ (v1 : Int32) (v2 : Int32) (v3 : Int32) (m : zf_Me) (Q : zf_Me → Prop), R v1 v2 v3 m Q → zf_M e 174 [.inr (.inr (1, 63)), .inl v1, .inl v2, .inl v3] m (zf_O Q)) {v1 : Int32} {v2 : Int32} {v3 : Int32} {F173 : Int32 → Int32 → zf_Me → Prop} {Q : zf_Me → Prop} (hF173 : ∀ (v4 : Int32) (v5 : Int32) (m : zf_Me), F173 v4 v5 m → zf_W none 0 0 (e + 1) zt_174 173 [some (.inr (.inr (1, 63))), some (.inl v1), some (.inl v2), some (.inl v3), some (.inl v4), some (.inl v5), none] [] m (zf_O Q)) {v4 : Int32} {v5 : Int32} {u0 : Int32} {u1 : Int32} {u2 : Int32} {m : zf_Me} (h : wq_174_230 R v1 v2 v3 F173 v4 v5 u0 u1 u2 m Q) : zf_W none 0 0 (e + 1) zt_174 230 [some (.inr (.inr (1, 63))), some (.inl v1), some (.inl v2), some (.inl v3), some (.inl v4), some (.inl v5), none] [.inl u0, .inl u1, .inl u2, .inr (.inr (1, 63))] m (zf_O Q) := by
  unfold wq_174_230 at h
  refine zf_iv (k := 174) (pc' := 233) (r := []) dX8_looks_230 rfl rfl rfl rfl (by decide) rfl rfl rfl (hR _ _ _ _ _ h) (zf_kO (fun m10 h => ?_))
  refine zf_ld (pc' := 234) (v := .inr (.inr (1, 63))) dX8_looks_233 rfl (fun _ _ _ => rfl) rfl rfl rfl ?_
  refine zf_ld (pc' := 235) (v := .inr (.inr (1, 63))) dX8_looks_234 rfl (fun _ _ _ => rfl) rfl rfl rfl ?_
  refine zf_gfr (pc' := 238) (b := 82) dX8_looks_235 rfl rfl (by decide) rfl rfl ?_
  refine zf_bi (v := 90) (pc' := 240) dX8_looks_238 rfl rfl ?_
  refine zf_ld (pc' := 241) (v := .inl v1) dX8_looks_240 rfl (fun _ _ _ => rfl) rfl rfl rfl ?_
  refine zf_in (pc' := 242) (S' := [.inl (90 * v1), .inr (.inr (1, 82)), .inr (.inr (1, 63))]) dX8_looks_241 rfl (fun _ _ _ => rfl) ?_
  refine zf_ic (v := 1) (pc' := 243) dX8_looks_242 rfl rfl ?_
  refine zf_iv (k := 161) (pc' := 246) (r := []) dX8_looks_243 rfl rfl rfl rfl (by decide) rfl rfl rfl (zr_161 (by omega) (⟨by decide, rfl⟩ : zf_arr 82 450) h) (zf_kO (fun m12 h => ?_))
  refine zf_ii (y := (v5 + 1)) (L2 := [some (.inr (.inr (1, 63))), some (.inl v1), some (.inl v2), some (.inl v3), some (.inl v4), some (.inl (v5 + 1)), none]) (pc' := 249) dX8_looks_246 rfl rfl rfl rfl rfl ?_
  refine zf_goto (tgt := 173) dX8_looks_249 rfl ?_
  exact zf_lo (hF173 _ _ _ h) ⟨rfl, rfl, rfl, rfl, rfl, rfl, trivial⟩
def wq_174_173 (R : Int32 → Int32 → Int32 → zf_Me → (zf_Me → Prop) → Prop) (v1 : Int32) (v2 : Int32) (v3 : Int32) (Q : zf_Me → Prop) : Nat → Int32 → Int32 → zf_Me → Prop
  | 0, _, _, _ => False
  | n + 1, v4, v5, m => ((v5.toInt > 9 → Q m) ∧ (v5.toInt ≤ 9 → ((¬ (((v4 >>> (v5 &&& 31)) &&& 1)).toInt = 0 → ((0 ≤ (Int32.toInt v1) ∧ (Int32.toInt v1) < (4 : Int)) ∧ ∀ m3, m3 = zf_u m 83 (Int32.toInt v1).toNat v5 → wp_169 v5 m3 (fun m6 => wp_170 m6 (fun x7 m8 => ((x7.toInt ≤ v3.toInt → wq_174_230 R v1 v2 v3 (wq_174_173 R v1 v2 v3 Q n) v4 v5 v3 v2 (v1 + 1) m8 Q) ∧ (x7.toInt > v3.toInt → wq_174_230 R v1 v2 v3 (wq_174_173 R v1 v2 v3 Q n) v4 v5 x7 v2 (v1 + 1) m8 Q)))))) ∧ ((((v4 >>> (v5 &&& 31)) &&& 1)).toInt = 0 → wq_174_173 R v1 v2 v3 Q n v4 (v5 + 1) m))))
theorem zq_174_173 {e : Nat} (hd : 3 ≤ e) {R : Int32 → Int32 → Int32 → zf_Me → (zf_Me → Prop) → Prop} (hR : ∀ (v1 : Int32) (v2 : Int32) (v3 : Int32) (m : zf_Me) (Q : zf_Me → Prop), R v1 v2 v3 m Q → zf_M e 174 [.inr (.inr (1, 63)), .inl v1, .inl v2, .inl v3] m (zf_O Q)) {v1 : Int32} {v2 : Int32} {v3 : Int32} {Q : zf_Me → Prop} : ∀ (n : Nat) (v4 : Int32) (v5 : Int32) (m : zf_Me), wq_174_173 R v1 v2 v3 Q n v4 v5 m → zf_W none 0 0 (e + 1) zt_174 173 [some (.inr (.inr (1, 63))), some (.inl v1), some (.inl v2), some (.inl v3), some (.inl v4), some (.inl v5), none] [] m (zf_O Q) := by
  intro n
  induction n with
  | zero =>
    intro v4 v5 m h
    exact h.elim
  | succ n ih =>
    intro v4 v5 m h
    unfold wq_174_173 at h
    refine zf_ld (pc' := 175) (v := .inl v5) dX8_looks_173 rfl (fun _ _ _ => rfl) rfl rfl rfl ?_
    refine zf_bi (v := 9) (pc' := 177) dX8_looks_175 rfl rfl ?_
    refine zf_icmp_gt (tgt := 252) (pc' := 180) dX8_looks_177 rfl rfl (fun g => ?_) (fun g => ?_)
    · replace h := h.1 g
      exact zf_rv dX8_looks_252 rfl h
    · replace h := h.2 g
      refine zf_ld (pc' := 182) (v := .inl v4) dX8_looks_180 rfl (fun _ _ _ => rfl) rfl rfl rfl ?_
      refine zf_ld (pc' := 184) (v := .inl v5) dX8_looks_182 rfl (fun _ _ _ => rfl) rfl rfl rfl ?_
      refine zf_in (pc' := 185) (S' := [.inl (v4 >>> (v5 &&& 31))]) dX8_looks_184 rfl (fun _ _ _ => rfl) ?_
      refine zf_ic (v := 1) (pc' := 186) dX8_looks_185 rfl rfl ?_
      refine zf_in (pc' := 187) (S' := [.inl ((v4 >>> (v5 &&& 31)) &&& 1)]) dX8_looks_186 rfl (fun _ _ _ => rfl) ?_
      refine zf_if_ne (tgt := 193) (pc' := 190) dX8_looks_187 rfl rfl (fun g => ?_) (fun g => ?_)
      · replace h := h.1 g
        refine zf_ld (pc' := 194) (v := .inr (.inr (1, 63))) dX8_looks_193 rfl (fun _ _ _ => rfl) rfl rfl rfl ?_
        refine zf_gfr (pc' := 197) (b := 83) dX8_looks_194 rfl rfl (by decide) rfl rfl ?_
        refine zf_ld (pc' := 198) (v := .inl v1) dX8_looks_197 rfl (fun _ _ _ => rfl) rfl rfl rfl ?_
        refine zf_ld (pc' := 200) (v := .inl v5) dX8_looks_198 rfl (fun _ _ _ => rfl) rfl rfl rfl ?_
        refine zf_ias (pc' := 201) dX8_looks_200 rfl (⟨by decide, rfl⟩ : zf_arr 83 4).1 (⟨by decide, rfl⟩ : zf_arr 83 4).2 h.1 rfl (fun m3 e4 => ?_)
        replace h := h.2 m3 e4
        refine zf_ld (pc' := 202) (v := .inr (.inr (1, 63))) dX8_looks_201 rfl (fun _ _ _ => rfl) rfl rfl rfl ?_
        refine zf_ld (pc' := 204) (v := .inl v5) dX8_looks_202 rfl (fun _ _ _ => rfl) rfl rfl rfl ?_
        refine zf_iv (k := 169) (pc' := 207) (r := []) dX8_looks_204 rfl rfl rfl rfl (by decide) rfl rfl rfl (zr_169 (by omega) h) (zf_kO (fun m6 h => ?_))
        refine zf_ld (pc' := 208) (v := .inr (.inr (1, 63))) dX8_looks_207 rfl (fun _ _ _ => rfl) rfl rfl rfl ?_
        refine zf_iv (k := 170) (pc' := 211) (r := []) dX8_looks_208 rfl rfl rfl rfl (by decide) rfl rfl rfl (zr_170 (by omega) h) (zf_kI (fun x7 m8 h => ?_))
        refine zf_st (pc' := 213) (L2 := [some (.inr (.inr (1, 63))), some (.inl v1), some (.inl v2), some (.inl v3), some (.inl v4), some (.inl v5), some (.inl x7)]) dX8_looks_211 rfl (fun _ _ _ => rfl) rfl rfl rfl rfl rfl rfl ?_
        refine zf_ld (pc' := 214) (v := .inr (.inr (1, 63))) dX8_looks_213 rfl (fun _ _ _ => rfl) rfl rfl rfl ?_
        refine zf_ld (pc' := 215) (v := .inl v1) dX8_looks_214 rfl (fun _ _ _ => rfl) rfl rfl rfl ?_
        refine zf_ic (v := 1) (pc' := 216) dX8_looks_215 rfl rfl ?_
        refine zf_in (pc' := 217) (S' := [.inl (v1 + 1), .inr (.inr (1, 63))]) dX8_looks_216 rfl (fun _ _ _ => rfl) ?_
        refine zf_ld (pc' := 218) (v := .inl v2) dX8_looks_217 rfl (fun _ _ _ => rfl) rfl rfl rfl ?_
        refine zf_ld (pc' := 220) (v := .inl x7) dX8_looks_218 rfl (fun _ _ _ => rfl) rfl rfl rfl ?_
        refine zf_ld (pc' := 221) (v := .inl v3) dX8_looks_220 rfl (fun _ _ _ => rfl) rfl rfl rfl ?_
        refine zf_icmp_le (tgt := 229) (pc' := 224) dX8_looks_221 rfl rfl (fun g => ?_) (fun g => ?_)
        · replace h := h.1 g
          refine zf_ld (pc' := 230) (v := .inl v3) dX8_looks_229 rfl (fun _ _ _ => rfl) rfl rfl rfl ?_
          exact zf_lo (zq_174_230 (by omega) hR ih h) ⟨rfl, rfl, rfl, rfl, rfl, rfl, trivial⟩
        · replace h := h.2 g
          refine zf_ld (pc' := 226) (v := .inl x7) dX8_looks_224 rfl (fun _ _ _ => rfl) rfl rfl rfl ?_
          refine zf_goto (tgt := 230) dX8_looks_226 rfl ?_
          exact zf_lo (zq_174_230 (by omega) hR ih h) ⟨rfl, rfl, rfl, rfl, rfl, rfl, trivial⟩
      · replace h := h.2 g
        refine zf_goto (tgt := 246) dX8_looks_190 rfl ?_
        refine zf_ii (y := (v5 + 1)) (L2 := [some (.inr (.inr (1, 63))), some (.inl v1), some (.inl v2), some (.inl v3), some (.inl v4), some (.inl (v5 + 1)), none]) (pc' := 249) dX8_looks_246 rfl rfl rfl rfl rfl ?_
        refine zf_goto (tgt := 173) dX8_looks_249 rfl ?_
        exact zf_lo (ih _ _ _ h) ⟨rfl, rfl, rfl, rfl, rfl, rfl, trivial⟩
def wq_174_130 (R : Int32 → Int32 → Int32 → zf_Me → (zf_Me → Prop) → Prop) (v1 : Int32) (v2 : Int32) (v3 : Int32) (Q : zf_Me → Prop) : Nat → Int32 → zf_Me → Prop
  | 0, _, _ => False
  | n + 1, v6, m => ((v6.toInt ≥ v1.toInt → Q m) ∧ (v6.toInt < v1.toInt → ((0 ≤ (Int32.toInt v6) ∧ (Int32.toInt v6) < (4 : Int)) ∧ ((0 ≤ (Int32.toInt v6) ∧ (Int32.toInt v6) < (4 : Int)) ∧ ∀ m21, m21 = zf_u m 84 (Int32.toInt v6).toNat (m.1 83 (Int32.toInt v6).toNat) → wq_174_130 R v1 v2 v3 Q n (v6 + 1) m21))))
theorem zq_174_130 {e : Nat} (hd : 3 ≤ e) {R : Int32 → Int32 → Int32 → zf_Me → (zf_Me → Prop) → Prop} (hR : ∀ (v1 : Int32) (v2 : Int32) (v3 : Int32) (m : zf_Me) (Q : zf_Me → Prop), R v1 v2 v3 m Q → zf_M e 174 [.inr (.inr (1, 63)), .inl v1, .inl v2, .inl v3] m (zf_O Q)) {v1 : Int32} {v2 : Int32} {v3 : Int32} {Q : zf_Me → Prop} : ∀ (n : Nat) (v6 : Int32) (m : zf_Me), wq_174_130 R v1 v2 v3 Q n v6 m → zf_W none 0 0 (e + 1) zt_174 130 [some (.inr (.inr (1, 63))), some (.inl v1), none, none, none, none, some (.inl v6)] [] m (zf_O Q) := by
  intro n
  induction n with
  | zero =>
    intro v6 m h
    exact h.elim
  | succ n ih =>
    intro v6 m h
    unfold wq_174_130 at h
    refine zf_ld (pc' := 132) (v := .inl v6) dX8_looks_130 rfl (fun _ _ _ => rfl) rfl rfl rfl ?_
    refine zf_ld (pc' := 133) (v := .inl v1) dX8_looks_132 rfl (fun _ _ _ => rfl) rfl rfl rfl ?_
    refine zf_icmp_ge (tgt := 156) (pc' := 136) dX8_looks_133 rfl rfl (fun g => ?_) (fun g => ?_)
    · replace h := h.1 g
      exact zf_rv dX8_looks_156 rfl h
    · replace h := h.2 g
      refine zf_ld (pc' := 137) (v := .inr (.inr (1, 63))) dX8_looks_136 rfl (fun _ _ _ => rfl) rfl rfl rfl ?_
      refine zf_gfr (pc' := 140) (b := 84) dX8_looks_137 rfl rfl (by decide) rfl rfl ?_
      refine zf_ld (pc' := 142) (v := .inl v6) dX8_looks_140 rfl (fun _ _ _ => rfl) rfl rfl rfl ?_
      refine zf_ld (pc' := 143) (v := .inr (.inr (1, 63))) dX8_looks_142 rfl (fun _ _ _ => rfl) rfl rfl rfl ?_
      refine zf_gfr (pc' := 146) (b := 83) dX8_looks_143 rfl rfl (by decide) rfl rfl ?_
      refine zf_ld (pc' := 148) (v := .inl v6) dX8_looks_146 rfl (fun _ _ _ => rfl) rfl rfl rfl ?_
      refine zf_ial (pc' := 149) dX8_looks_148 rfl (⟨by decide, rfl⟩ : zf_arr 83 4).1 (⟨by decide, rfl⟩ : zf_arr 83 4).2 h.1 rfl ?_
      replace h := h.2
      refine zf_ias (pc' := 150) dX8_looks_149 rfl (⟨by decide, rfl⟩ : zf_arr 84 4).1 (⟨by decide, rfl⟩ : zf_arr 84 4).2 h.1 rfl (fun m21 e22 => ?_)
      replace h := h.2 m21 e22
      refine zf_ii (y := (v6 + 1)) (L2 := [some (.inr (.inr (1, 63))), some (.inl v1), none, none, none, none, some (.inl (v6 + 1))]) (pc' := 153) dX8_looks_150 rfl rfl rfl rfl rfl ?_
      refine zf_goto (tgt := 130) dX8_looks_153 rfl ?_
      exact zf_lo (ih _ _ h) ⟨rfl, rfl, rfl, trivial⟩
def wq_174_93 (R : Int32 → Int32 → Int32 → zf_Me → (zf_Me → Prop) → Prop) (v1 : Int32) (v2 : Int32) (v3 : Int32) (u0 : Int32) (m : zf_Me) (Q : zf_Me → Prop) : Prop := ((¬ u0.toInt = 0 → (∀ m13, m13 = zf_u m 63 40 v1 → (∀ m15, m15 = zf_u m13 63 41 (m13.1 63 10) → (∀ m17, m17 = zf_u m15 63 42 v3 → (∀ m19, m19 = zf_u m17 63 43 (m17.1 63 11) → (∃ n130, wq_174_130 R v1 v2 v3 Q n130 0 m19)))))) ∧ (u0.toInt = 0 → Q m))
theorem zq_174_93 {e : Nat} (hd : 3 ≤ e) {R : Int32 → Int32 → Int32 → zf_Me → (zf_Me → Prop) → Prop} (hR : ∀ (v1 : Int32) (v2 : Int32) (v3 : Int32) (m : zf_Me) (Q : zf_Me → Prop), R v1 v2 v3 m Q → zf_M e 174 [.inr (.inr (1, 63)), .inl v1, .inl v2, .inl v3] m (zf_O Q)) {v1 : Int32} {v2 : Int32} {v3 : Int32} {Q : zf_Me → Prop} {u0 : Int32} {m : zf_Me} (h : wq_174_93 R v1 v2 v3 u0 m Q) : zf_W none 0 0 (e + 1) zt_174 93 [some (.inr (.inr (1, 63))), some (.inl v1), none, some (.inl v3), none, none, none] [.inl u0] m (zf_O Q) := by
  unfold wq_174_93 at h
  refine zf_st (pc' := 95) (L2 := [some (.inr (.inr (1, 63))), some (.inl v1), none, some (.inl v3), none, some (.inl u0), none]) dX8_looks_93 rfl (fun _ _ _ => rfl) rfl rfl rfl rfl rfl rfl ?_
  refine zf_ld (pc' := 97) (v := .inl u0) dX8_looks_95 rfl (fun _ _ _ => rfl) rfl rfl rfl ?_
  refine zf_if_ne (tgt := 101) (pc' := 100) dX8_looks_97 rfl rfl (fun g => ?_) (fun g => ?_)
  · replace h := h.1 g
    refine zf_ld (pc' := 102) (v := .inr (.inr (1, 63))) dX8_looks_101 rfl (fun _ _ _ => rfl) rfl rfl rfl ?_
    refine zf_ld (pc' := 103) (v := .inl v1) dX8_looks_102 rfl (fun _ _ _ => rfl) rfl rfl rfl ?_
    refine zf_pf (pc' := 106) dX8_looks_103 rfl rfl (by decide) rfl rfl rfl (fun m13 e14 => ?_)
    replace h := h m13 e14
    refine zf_ld (pc' := 107) (v := .inr (.inr (1, 63))) dX8_looks_106 rfl (fun _ _ _ => rfl) rfl rfl rfl ?_
    refine zf_ld (pc' := 108) (v := .inr (.inr (1, 63))) dX8_looks_107 rfl (fun _ _ _ => rfl) rfl rfl rfl ?_
    refine zf_gfi (pc' := 111) dX8_looks_108 rfl rfl (by decide) rfl rfl ?_
    refine zf_pf (pc' := 114) dX8_looks_111 rfl rfl (by decide) rfl rfl rfl (fun m15 e16 => ?_)
    replace h := h m15 e16
    refine zf_ld (pc' := 115) (v := .inr (.inr (1, 63))) dX8_looks_114 rfl (fun _ _ _ => rfl) rfl rfl rfl ?_
    refine zf_ld (pc' := 116) (v := .inl v3) dX8_looks_115 rfl (fun _ _ _ => rfl) rfl rfl rfl ?_
    refine zf_pf (pc' := 119) dX8_looks_116 rfl rfl (by decide) rfl rfl rfl (fun m17 e18 => ?_)
    replace h := h m17 e18
    refine zf_ld (pc' := 120) (v := .inr (.inr (1, 63))) dX8_looks_119 rfl (fun _ _ _ => rfl) rfl rfl rfl ?_
    refine zf_ld (pc' := 121) (v := .inr (.inr (1, 63))) dX8_looks_120 rfl (fun _ _ _ => rfl) rfl rfl rfl ?_
    refine zf_gfi (pc' := 124) dX8_looks_121 rfl rfl (by decide) rfl rfl ?_
    refine zf_pf (pc' := 127) dX8_looks_124 rfl rfl (by decide) rfl rfl rfl (fun m19 e20 => ?_)
    replace h := h m19 e20
    refine zf_ic (v := 0) (pc' := 128) dX8_looks_127 rfl rfl ?_
    refine zf_st (pc' := 130) (L2 := [some (.inr (.inr (1, 63))), some (.inl v1), none, some (.inl v3), none, some (.inl u0), some (.inl 0)]) dX8_looks_128 rfl (fun _ _ _ => rfl) rfl rfl rfl rfl rfl rfl ?_
    obtain ⟨n130, h⟩ := h
    exact zf_lo (zq_174_130 (by omega) hR n130 _ _ h) ⟨rfl, rfl, rfl, trivial⟩
  · replace h := h.2 g
    exact zf_rv dX8_looks_100 rfl h
def wq_174_88 (R : Int32 → Int32 → Int32 → zf_Me → (zf_Me → Prop) → Prop) (v1 : Int32) (v2 : Int32) (v3 : Int32) (m : zf_Me) (Q : zf_Me → Prop) : Prop := wq_174_93 R v1 v2 v3 1 m Q
theorem zq_174_88 {e : Nat} (hd : 3 ≤ e) {R : Int32 → Int32 → Int32 → zf_Me → (zf_Me → Prop) → Prop} (hR : ∀ (v1 : Int32) (v2 : Int32) (v3 : Int32) (m : zf_Me) (Q : zf_Me → Prop), R v1 v2 v3 m Q → zf_M e 174 [.inr (.inr (1, 63)), .inl v1, .inl v2, .inl v3] m (zf_O Q)) {v1 : Int32} {v2 : Int32} {v3 : Int32} {Q : zf_Me → Prop} {m : zf_Me} (h : wq_174_88 R v1 v2 v3 m Q) : zf_W none 0 0 (e + 1) zt_174 88 [some (.inr (.inr (1, 63))), some (.inl v1), none, some (.inl v3), none, none, none] [] m (zf_O Q) := by
  unfold wq_174_88 at h
  refine zf_ic (v := 1) (pc' := 89) dX8_looks_88 rfl rfl ?_
  refine zf_goto (tgt := 93) dX8_looks_89 rfl ?_
  exact zf_lo (zq_174_93 (by omega) hR h) ⟨rfl, rfl, rfl, trivial⟩
def wq_174_92 (R : Int32 → Int32 → Int32 → zf_Me → (zf_Me → Prop) → Prop) (v1 : Int32) (v2 : Int32) (v3 : Int32) (m : zf_Me) (Q : zf_Me → Prop) : Prop := wq_174_93 R v1 v2 v3 0 m Q
theorem zq_174_92 {e : Nat} (hd : 3 ≤ e) {R : Int32 → Int32 → Int32 → zf_Me → (zf_Me → Prop) → Prop} (hR : ∀ (v1 : Int32) (v2 : Int32) (v3 : Int32) (m : zf_Me) (Q : zf_Me → Prop), R v1 v2 v3 m Q → zf_M e 174 [.inr (.inr (1, 63)), .inl v1, .inl v2, .inl v3] m (zf_O Q)) {v1 : Int32} {v2 : Int32} {v3 : Int32} {Q : zf_Me → Prop} {m : zf_Me} (h : wq_174_92 R v1 v2 v3 m Q) : zf_W none 0 0 (e + 1) zt_174 92 [some (.inr (.inr (1, 63))), some (.inl v1), none, some (.inl v3), none, none, none] [] m (zf_O Q) := by
  unfold wq_174_92 at h
  refine zf_ic (v := 0) (pc' := 93) dX8_looks_92 rfl rfl ?_
  exact zf_lo (zq_174_93 (by omega) hR h) ⟨rfl, rfl, rfl, trivial⟩
def wq_174_24 (R : Int32 → Int32 → Int32 → zf_Me → (zf_Me → Prop) → Prop) (v1 : Int32) (v2 : Int32) (v3 : Int32) (u0 : Int32) (m : zf_Me) (Q : zf_Me → Prop) : Prop := ((¬ u0.toInt = 0 → wp_161 82 450 (90 * v1) 0 m (fun m2 => (∃ n173, wq_174_173 R v1 v2 v3 Q n173 u0 0 m2))) ∧ (u0.toInt = 0 → ((((m.1 63 40)).toInt = (-1) → wq_174_88 R v1 v2 v3 m Q) ∧ (¬ ((m.1 63 40)).toInt = (-1) → ((((m.1 63 10)).toInt > ((m.1 63 41)).toInt → wq_174_88 R v1 v2 v3 m Q) ∧ (((m.1 63 10)).toInt ≤ ((m.1 63 41)).toInt → ((¬ ((m.1 63 10)).toInt = ((m.1 63 41)).toInt → wq_174_92 R v1 v2 v3 m Q) ∧ (((m.1 63 10)).toInt = ((m.1 63 41)).toInt → ((v3.toInt < ((m.1 63 42)).toInt → wq_174_88 R v1 v2 v3 m Q) ∧ (v3.toInt ≥ ((m.1 63 42)).toInt → ((¬ v3.toInt = ((m.1 63 42)).toInt → wq_174_92 R v1 v2 v3 m Q) ∧ (v3.toInt = ((m.1 63 42)).toInt → ((((m.1 63 11)).toInt ≥ ((m.1 63 43)).toInt → wq_174_92 R v1 v2 v3 m Q) ∧ (((m.1 63 11)).toInt < ((m.1 63 43)).toInt → wq_174_88 R v1 v2 v3 m Q))))))))))))))
theorem zq_174_24 {e : Nat} (hd : 3 ≤ e) {R : Int32 → Int32 → Int32 → zf_Me → (zf_Me → Prop) → Prop} (hR : ∀ (v1 : Int32) (v2 : Int32) (v3 : Int32) (m : zf_Me) (Q : zf_Me → Prop), R v1 v2 v3 m Q → zf_M e 174 [.inr (.inr (1, 63)), .inl v1, .inl v2, .inl v3] m (zf_O Q)) {v1 : Int32} {v2 : Int32} {v3 : Int32} {Q : zf_Me → Prop} {u0 : Int32} {m : zf_Me} (h : wq_174_24 R v1 v2 v3 u0 m Q) : zf_W none 0 0 (e + 1) zt_174 24 [some (.inr (.inr (1, 63))), some (.inl v1), some (.inl v2), some (.inl v3), none, none, none] [.inl u0] m (zf_O Q) := by
  unfold wq_174_24 at h
  refine zf_st (pc' := 26) (L2 := [some (.inr (.inr (1, 63))), some (.inl v1), some (.inl v2), some (.inl v3), some (.inl u0), none, none]) dX8_looks_24 rfl (fun _ _ _ => rfl) rfl rfl rfl rfl rfl rfl ?_
  refine zf_ld (pc' := 28) (v := .inl u0) dX8_looks_26 rfl (fun _ _ _ => rfl) rfl rfl rfl ?_
  refine zf_if_ne (tgt := 157) (pc' := 31) dX8_looks_28 rfl rfl (fun g => ?_) (fun g => ?_)
  · replace h := h.1 g
    refine zf_ld (pc' := 158) (v := .inr (.inr (1, 63))) dX8_looks_157 rfl (fun _ _ _ => rfl) rfl rfl rfl ?_
    refine zf_ld (pc' := 159) (v := .inr (.inr (1, 63))) dX8_looks_158 rfl (fun _ _ _ => rfl) rfl rfl rfl ?_
    refine zf_gfr (pc' := 162) (b := 82) dX8_looks_159 rfl rfl (by decide) rfl rfl ?_
    refine zf_bi (v := 90) (pc' := 164) dX8_looks_162 rfl rfl ?_
    refine zf_ld (pc' := 165) (v := .inl v1) dX8_looks_164 rfl (fun _ _ _ => rfl) rfl rfl rfl ?_
    refine zf_in (pc' := 166) (S' := [.inl (90 * v1), .inr (.inr (1, 82)), .inr (.inr (1, 63))]) dX8_looks_165 rfl (fun _ _ _ => rfl) ?_
    refine zf_ic (v := 0) (pc' := 167) dX8_looks_166 rfl rfl ?_
    refine zf_iv (k := 161) (pc' := 170) (r := []) dX8_looks_167 rfl rfl rfl rfl (by decide) rfl rfl rfl (zr_161 (by omega) (⟨by decide, rfl⟩ : zf_arr 82 450) h) (zf_kO (fun m2 h => ?_))
    refine zf_ic (v := 0) (pc' := 171) dX8_looks_170 rfl rfl ?_
    refine zf_st (pc' := 173) (L2 := [some (.inr (.inr (1, 63))), some (.inl v1), some (.inl v2), some (.inl v3), some (.inl u0), some (.inl 0), none]) dX8_looks_171 rfl (fun _ _ _ => rfl) rfl rfl rfl rfl rfl rfl ?_
    obtain ⟨n173, h⟩ := h
    exact zf_lo (zq_174_173 (by omega) hR n173 _ _ _ h) ⟨rfl, rfl, rfl, rfl, rfl, rfl, trivial⟩
  · replace h := h.2 g
    refine zf_ld (pc' := 32) (v := .inr (.inr (1, 63))) dX8_looks_31 rfl (fun _ _ _ => rfl) rfl rfl rfl ?_
    refine zf_gfi (pc' := 35) dX8_looks_32 rfl rfl (by decide) rfl rfl ?_
    refine zf_ic (v := (-1)) (pc' := 36) dX8_looks_35 rfl rfl ?_
    refine zf_icmp_eq (tgt := 88) (pc' := 39) dX8_looks_36 rfl rfl (fun g => ?_) (fun g => ?_)
    · replace h := h.1 g
      exact zf_lo (zq_174_88 (by omega) hR h) ⟨rfl, rfl, rfl, trivial⟩
    · replace h := h.2 g
      refine zf_ld (pc' := 40) (v := .inr (.inr (1, 63))) dX8_looks_39 rfl (fun _ _ _ => rfl) rfl rfl rfl ?_
      refine zf_gfi (pc' := 43) dX8_looks_40 rfl rfl (by decide) rfl rfl ?_
      refine zf_ld (pc' := 44) (v := .inr (.inr (1, 63))) dX8_looks_43 rfl (fun _ _ _ => rfl) rfl rfl rfl ?_
      refine zf_gfi (pc' := 47) dX8_looks_44 rfl rfl (by decide) rfl rfl ?_
      refine zf_icmp_gt (tgt := 88) (pc' := 50) dX8_looks_47 rfl rfl (fun g => ?_) (fun g => ?_)
      · replace h := h.1 g
        exact zf_lo (zq_174_88 (by omega) hR h) ⟨rfl, rfl, rfl, trivial⟩
      · replace h := h.2 g
        refine zf_ld (pc' := 51) (v := .inr (.inr (1, 63))) dX8_looks_50 rfl (fun _ _ _ => rfl) rfl rfl rfl ?_
        refine zf_gfi (pc' := 54) dX8_looks_51 rfl rfl (by decide) rfl rfl ?_
        refine zf_ld (pc' := 55) (v := .inr (.inr (1, 63))) dX8_looks_54 rfl (fun _ _ _ => rfl) rfl rfl rfl ?_
        refine zf_gfi (pc' := 58) dX8_looks_55 rfl rfl (by decide) rfl rfl ?_
        refine zf_icmp_ne (tgt := 92) (pc' := 61) dX8_looks_58 rfl rfl (fun g => ?_) (fun g => ?_)
        · replace h := h.1 g
          exact zf_lo (zq_174_92 (by omega) hR h) ⟨rfl, rfl, rfl, trivial⟩
        · replace h := h.2 g
          refine zf_ld (pc' := 62) (v := .inl v3) dX8_looks_61 rfl (fun _ _ _ => rfl) rfl rfl rfl ?_
          refine zf_ld (pc' := 63) (v := .inr (.inr (1, 63))) dX8_looks_62 rfl (fun _ _ _ => rfl) rfl rfl rfl ?_
          refine zf_gfi (pc' := 66) dX8_looks_63 rfl rfl (by decide) rfl rfl ?_
          refine zf_icmp_lt (tgt := 88) (pc' := 69) dX8_looks_66 rfl rfl (fun g => ?_) (fun g => ?_)
          · replace h := h.1 g
            exact zf_lo (zq_174_88 (by omega) hR h) ⟨rfl, rfl, rfl, trivial⟩
          · replace h := h.2 g
            refine zf_ld (pc' := 70) (v := .inl v3) dX8_looks_69 rfl (fun _ _ _ => rfl) rfl rfl rfl ?_
            refine zf_ld (pc' := 71) (v := .inr (.inr (1, 63))) dX8_looks_70 rfl (fun _ _ _ => rfl) rfl rfl rfl ?_
            refine zf_gfi (pc' := 74) dX8_looks_71 rfl rfl (by decide) rfl rfl ?_
            refine zf_icmp_ne (tgt := 92) (pc' := 77) dX8_looks_74 rfl rfl (fun g => ?_) (fun g => ?_)
            · replace h := h.1 g
              exact zf_lo (zq_174_92 (by omega) hR h) ⟨rfl, rfl, rfl, trivial⟩
            · replace h := h.2 g
              refine zf_ld (pc' := 78) (v := .inr (.inr (1, 63))) dX8_looks_77 rfl (fun _ _ _ => rfl) rfl rfl rfl ?_
              refine zf_gfi (pc' := 81) dX8_looks_78 rfl rfl (by decide) rfl rfl ?_
              refine zf_ld (pc' := 82) (v := .inr (.inr (1, 63))) dX8_looks_81 rfl (fun _ _ _ => rfl) rfl rfl rfl ?_
              refine zf_gfi (pc' := 85) dX8_looks_82 rfl rfl (by decide) rfl rfl ?_
              refine zf_icmp_ge (tgt := 92) (pc' := 88) dX8_looks_85 rfl rfl (fun g => ?_) (fun g => ?_)
              · replace h := h.1 g
                exact zf_lo (zq_174_92 (by omega) hR h) ⟨rfl, rfl, rfl, trivial⟩
              · replace h := h.2 g
                exact zf_lo (zq_174_88 (by omega) hR h) ⟨rfl, rfl, rfl, trivial⟩
def wq_174_16 (R : Int32 → Int32 → Int32 → zf_Me → (zf_Me → Prop) → Prop) (v1 : Int32) (v2 : Int32) (v3 : Int32) (m : zf_Me) (Q : zf_Me → Prop) : Prop := wq_174_24 R v1 v2 v3 0 m Q
theorem zq_174_16 {e : Nat} (hd : 3 ≤ e) {R : Int32 → Int32 → Int32 → zf_Me → (zf_Me → Prop) → Prop} (hR : ∀ (v1 : Int32) (v2 : Int32) (v3 : Int32) (m : zf_Me) (Q : zf_Me → Prop), R v1 v2 v3 m Q → zf_M e 174 [.inr (.inr (1, 63)), .inl v1, .inl v2, .inl v3] m (zf_O Q)) {v1 : Int32} {v2 : Int32} {v3 : Int32} {Q : zf_Me → Prop} {m : zf_Me} (h : wq_174_16 R v1 v2 v3 m Q) : zf_W none 0 0 (e + 1) zt_174 16 [some (.inr (.inr (1, 63))), some (.inl v1), some (.inl v2), some (.inl v3), none, none, none] [] m (zf_O Q) := by
  unfold wq_174_16 at h
  refine zf_ic (v := 0) (pc' := 17) dX8_looks_16 rfl rfl ?_
  refine zf_goto (tgt := 24) dX8_looks_17 rfl ?_
  exact zf_lo (zq_174_24 (by omega) hR h) ⟨rfl, rfl, rfl, rfl, trivial⟩
def wb_174 (R : Int32 → Int32 → Int32 → zf_Me → (zf_Me → Prop) → Prop) (v1 : Int32) (v2 : Int32) (v3 : Int32) (m : zf_Me) (Q : zf_Me → Prop) : Prop := ((v1.toInt = v2.toInt → wq_174_16 R v1 v2 v3 m Q) ∧ (¬ v1.toInt = v2.toInt → ((¬ ((m.1 63 10)).toInt = ((m.1 63 0)).toInt → wp_173 m (fun x23 m24 => wq_174_24 R v1 v2 v3 x23 m24 Q)) ∧ (((m.1 63 10)).toInt = ((m.1 63 0)).toInt → wq_174_16 R v1 v2 v3 m Q))))
theorem zb_174 {e : Nat} (hd : 3 ≤ e) {R : Int32 → Int32 → Int32 → zf_Me → (zf_Me → Prop) → Prop} (hR : ∀ (v1 : Int32) (v2 : Int32) (v3 : Int32) (m : zf_Me) (Q : zf_Me → Prop), R v1 v2 v3 m Q → zf_M e 174 [.inr (.inr (1, 63)), .inl v1, .inl v2, .inl v3] m (zf_O Q)) {v1 : Int32} {v2 : Int32} {v3 : Int32} {Q : zf_Me → Prop} {m : zf_Me} (h : wb_174 R v1 v2 v3 m Q) : zf_M (e + 1) 174 [.inr (.inr (1, 63)), .inl v1, .inl v2, .inl v3] m (zf_O Q) := by
  unfold wb_174 at h
  refine zf_M_of (Nat.le_of_ble_eq_true rfl) zm_174 (L := [some (.inr (.inr (1, 63))), some (.inl v1), some (.inl v2), some (.inl v3), none, none, none]) rfl ?_
  refine zf_ld (pc' := 1) (v := .inl v1) dX8_looks_0 rfl (fun _ _ _ => rfl) rfl rfl rfl ?_
  refine zf_ld (pc' := 2) (v := .inl v2) dX8_looks_1 rfl (fun _ _ _ => rfl) rfl rfl rfl ?_
  refine zf_icmp_eq (tgt := 16) (pc' := 5) dX8_looks_2 rfl rfl (fun g => ?_) (fun g => ?_)
  · replace h := h.1 g
    exact zf_lo (zq_174_16 (by omega) hR h) ⟨rfl, rfl, rfl, rfl, trivial⟩
  · replace h := h.2 g
    refine zf_ld (pc' := 6) (v := .inr (.inr (1, 63))) dX8_looks_5 rfl (fun _ _ _ => rfl) rfl rfl rfl ?_
    refine zf_gfi (pc' := 9) dX8_looks_6 rfl rfl (by decide) rfl rfl ?_
    refine zf_ld (pc' := 10) (v := .inr (.inr (1, 63))) dX8_looks_9 rfl (fun _ _ _ => rfl) rfl rfl rfl ?_
    refine zf_gfi (pc' := 13) dX8_looks_10 rfl rfl (by decide) rfl rfl ?_
    refine zf_icmp_ne (tgt := 20) (pc' := 16) dX8_looks_13 rfl rfl (fun g => ?_) (fun g => ?_)
    · replace h := h.1 g
      refine zf_ld (pc' := 21) (v := .inr (.inr (1, 63))) dX8_looks_20 rfl (fun _ _ _ => rfl) rfl rfl rfl ?_
      refine zf_iv (k := 173) (pc' := 24) (r := []) dX8_looks_21 rfl rfl rfl rfl (by decide) rfl rfl rfl (zr_173 (by omega) h) (zf_kI (fun x23 m24 h => ?_))
      exact zf_lo (zq_174_24 (by omega) hR h) ⟨rfl, rfl, rfl, rfl, trivial⟩
    · replace h := h.2 g
      exact zf_lo (zq_174_16 (by omega) hR h) ⟨rfl, rfl, rfl, rfl, trivial⟩
def wp_174 : Nat → Int32 → Int32 → Int32 → zf_Me → (zf_Me → Prop) → Prop
  | 0, _, _, _, _, _ => False
  | n + 1, v1, v2, v3, m, Q => wb_174 (wp_174 n) v1 v2 v3 m Q
theorem zr_174 : ∀ (n : Nat) {d : Nat} (_ : 1 * n + 6 ≤ d) {v1 : Int32} {v2 : Int32} {v3 : Int32} {m : zf_Me} {Q : zf_Me → Prop} (_ : wp_174 n v1 v2 v3 m Q), zf_M d 174 [.inr (.inr (1, 63)), .inl v1, .inl v2, .inl v3] m (zf_O Q) := by
  intro n
  induction n with
  | zero => intro d _ _ _ _ m Q h; exact h.elim
  | succ n ih =>
    intro d hd _ _ _ m Q h
    obtain ⟨e, rfl⟩ : ∃ z, d = z + 1 := ⟨d - 1, by omega⟩
    exact zb_174 (e := e) (R := wp_174 n) (by omega) (fun _ _ _ m Q h => ih (by omega) h) h
def zt_175 : zx_MT := (8, yX8_ahead, cX8_ahead, 5, (some FieldType.int), 2, 0)
theorem zm_175 : zx_m 175 = zt_175 := rfl
theorem dX8_ahead_r0 : zdcP cX8_ahead 0 [(.iload_n 2, 1), (.iconst (-1), 1), (.if_icmp .lt 9, 3), (.iload_n 2, 1), (.bipush 6, 2), (.if_icmp .le 10, 3), (.aload_n 0, 1), (.bipush (-5), 2), (.invokevirtual 115, 3), (.ireturn, 1), (.iload_n 1, 1), (.iconst 1, 1), (.if_icmp .lt 8, 3), (.iload_n 1, 1), (.iconst 4, 1), (.if_icmp .le 10, 3)] := zdcA_ok (by decide +kernel)
theorem dX8_ahead_0 : decode cX8_ahead 0 = .ok (.iload_n 2, 1) := dX8_ahead_r0.1
theorem dX8_ahead_1 : decode cX8_ahead 1 = .ok (.iconst (-1), 1) := dX8_ahead_r0.2.1
theorem dX8_ahead_2 : decode cX8_ahead 2 = .ok (.if_icmp .lt 9, 3) := dX8_ahead_r0.2.2.1
theorem dX8_ahead_5 : decode cX8_ahead 5 = .ok (.iload_n 2, 1) := dX8_ahead_r0.2.2.2.1
theorem dX8_ahead_6 : decode cX8_ahead 6 = .ok (.bipush 6, 2) := dX8_ahead_r0.2.2.2.2.1
theorem dX8_ahead_8 : decode cX8_ahead 8 = .ok (.if_icmp .le 10, 3) := dX8_ahead_r0.2.2.2.2.2.1
theorem dX8_ahead_11 : decode cX8_ahead 11 = .ok (.aload_n 0, 1) := dX8_ahead_r0.2.2.2.2.2.2.1
theorem dX8_ahead_12 : decode cX8_ahead 12 = .ok (.bipush (-5), 2) := dX8_ahead_r0.2.2.2.2.2.2.2.1
theorem dX8_ahead_14 : decode cX8_ahead 14 = .ok (.invokevirtual 115, 3) := dX8_ahead_r0.2.2.2.2.2.2.2.2.1
theorem dX8_ahead_17 : decode cX8_ahead 17 = .ok (.ireturn, 1) := dX8_ahead_r0.2.2.2.2.2.2.2.2.2.1
theorem dX8_ahead_18 : decode cX8_ahead 18 = .ok (.iload_n 1, 1) := dX8_ahead_r0.2.2.2.2.2.2.2.2.2.2.1
theorem dX8_ahead_19 : decode cX8_ahead 19 = .ok (.iconst 1, 1) := dX8_ahead_r0.2.2.2.2.2.2.2.2.2.2.2.1
theorem dX8_ahead_20 : decode cX8_ahead 20 = .ok (.if_icmp .lt 8, 3) := dX8_ahead_r0.2.2.2.2.2.2.2.2.2.2.2.2.1
theorem dX8_ahead_23 : decode cX8_ahead 23 = .ok (.iload_n 1, 1) := dX8_ahead_r0.2.2.2.2.2.2.2.2.2.2.2.2.2.1
theorem dX8_ahead_24 : decode cX8_ahead 24 = .ok (.iconst 4, 1) := dX8_ahead_r0.2.2.2.2.2.2.2.2.2.2.2.2.2.2.1
theorem dX8_ahead_25 : decode cX8_ahead 25 = .ok (.if_icmp .le 10, 3) := dX8_ahead_r0.2.2.2.2.2.2.2.2.2.2.2.2.2.2.2.1
theorem dX8_ahead_r28 : zdcP cX8_ahead 28 [(.aload_n 0, 1), (.bipush (-6), 2), (.invokevirtual 115, 3), (.ireturn, 1), (.aload_n 0, 1), (.getfield 207, 3), (.istore_n 3, 1), (.aload_n 0, 1), (.getfield 210, 3), (.istore 4, 2), (.aload_n 0, 1), (.iconst (-1), 1), (.putfield 229, 3), (.aload_n 0, 1), (.iconst 0, 1), (.iload_n 1, 1)] := zdcA_ok (by decide +kernel)
theorem dX8_ahead_28 : decode cX8_ahead 28 = .ok (.aload_n 0, 1) := dX8_ahead_r28.1
theorem dX8_ahead_29 : decode cX8_ahead 29 = .ok (.bipush (-6), 2) := dX8_ahead_r28.2.1
theorem dX8_ahead_31 : decode cX8_ahead 31 = .ok (.invokevirtual 115, 3) := dX8_ahead_r28.2.2.1
theorem dX8_ahead_34 : decode cX8_ahead 34 = .ok (.ireturn, 1) := dX8_ahead_r28.2.2.2.1
theorem dX8_ahead_35 : decode cX8_ahead 35 = .ok (.aload_n 0, 1) := dX8_ahead_r28.2.2.2.2.1
theorem dX8_ahead_36 : decode cX8_ahead 36 = .ok (.getfield 207, 3) := dX8_ahead_r28.2.2.2.2.2.1
theorem dX8_ahead_39 : decode cX8_ahead 39 = .ok (.istore_n 3, 1) := dX8_ahead_r28.2.2.2.2.2.2.1
theorem dX8_ahead_40 : decode cX8_ahead 40 = .ok (.aload_n 0, 1) := dX8_ahead_r28.2.2.2.2.2.2.2.1
theorem dX8_ahead_41 : decode cX8_ahead 41 = .ok (.getfield 210, 3) := dX8_ahead_r28.2.2.2.2.2.2.2.2.1
theorem dX8_ahead_44 : decode cX8_ahead 44 = .ok (.istore 4, 2) := dX8_ahead_r28.2.2.2.2.2.2.2.2.2.1
theorem dX8_ahead_46 : decode cX8_ahead 46 = .ok (.aload_n 0, 1) := dX8_ahead_r28.2.2.2.2.2.2.2.2.2.2.1
theorem dX8_ahead_47 : decode cX8_ahead 47 = .ok (.iconst (-1), 1) := dX8_ahead_r28.2.2.2.2.2.2.2.2.2.2.2.1
theorem dX8_ahead_48 : decode cX8_ahead 48 = .ok (.putfield 229, 3) := dX8_ahead_r28.2.2.2.2.2.2.2.2.2.2.2.2.1
theorem dX8_ahead_51 : decode cX8_ahead 51 = .ok (.aload_n 0, 1) := dX8_ahead_r28.2.2.2.2.2.2.2.2.2.2.2.2.2.1
theorem dX8_ahead_52 : decode cX8_ahead 52 = .ok (.iconst 0, 1) := dX8_ahead_r28.2.2.2.2.2.2.2.2.2.2.2.2.2.2.1
theorem dX8_ahead_53 : decode cX8_ahead 53 = .ok (.iload_n 1, 1) := dX8_ahead_r28.2.2.2.2.2.2.2.2.2.2.2.2.2.2.2.1
theorem dX8_ahead_r54 : zdcP cX8_ahead 54 [(.aload_n 0, 1), (.invokevirtual 241, 3), (.invokevirtual 244, 3), (.iload_n 2, 1), (.iconst (-1), 1), (.if_icmp .ne 8, 3), (.aload_n 0, 1), (.getfield 229, 3), (.ireturn, 1), (.iload_n 2, 1), (.iconst 4, 1), (.if_icmp .ge 27, 3), (.iload_n 2, 1), (.aload_n 0, 1), (.getfield 229, 3), (.if_icmp .ge 12, 3)] := zdcA_ok (by decide +kernel)
theorem dX8_ahead_54 : decode cX8_ahead 54 = .ok (.aload_n 0, 1) := dX8_ahead_r54.1
theorem dX8_ahead_55 : decode cX8_ahead 55 = .ok (.invokevirtual 241, 3) := dX8_ahead_r54.2.1
theorem dX8_ahead_58 : decode cX8_ahead 58 = .ok (.invokevirtual 244, 3) := dX8_ahead_r54.2.2.1
theorem dX8_ahead_61 : decode cX8_ahead 61 = .ok (.iload_n 2, 1) := dX8_ahead_r54.2.2.2.1
theorem dX8_ahead_62 : decode cX8_ahead 62 = .ok (.iconst (-1), 1) := dX8_ahead_r54.2.2.2.2.1
theorem dX8_ahead_63 : decode cX8_ahead 63 = .ok (.if_icmp .ne 8, 3) := dX8_ahead_r54.2.2.2.2.2.1
theorem dX8_ahead_66 : decode cX8_ahead 66 = .ok (.aload_n 0, 1) := dX8_ahead_r54.2.2.2.2.2.2.1
theorem dX8_ahead_67 : decode cX8_ahead 67 = .ok (.getfield 229, 3) := dX8_ahead_r54.2.2.2.2.2.2.2.1
theorem dX8_ahead_70 : decode cX8_ahead 70 = .ok (.ireturn, 1) := dX8_ahead_r54.2.2.2.2.2.2.2.2.1
theorem dX8_ahead_71 : decode cX8_ahead 71 = .ok (.iload_n 2, 1) := dX8_ahead_r54.2.2.2.2.2.2.2.2.2.1
theorem dX8_ahead_72 : decode cX8_ahead 72 = .ok (.iconst 4, 1) := dX8_ahead_r54.2.2.2.2.2.2.2.2.2.2.1
theorem dX8_ahead_73 : decode cX8_ahead 73 = .ok (.if_icmp .ge 27, 3) := dX8_ahead_r54.2.2.2.2.2.2.2.2.2.2.2.1
theorem dX8_ahead_76 : decode cX8_ahead 76 = .ok (.iload_n 2, 1) := dX8_ahead_r54.2.2.2.2.2.2.2.2.2.2.2.2.1
theorem dX8_ahead_77 : decode cX8_ahead 77 = .ok (.aload_n 0, 1) := dX8_ahead_r54.2.2.2.2.2.2.2.2.2.2.2.2.2.1
theorem dX8_ahead_78 : decode cX8_ahead 78 = .ok (.getfield 229, 3) := dX8_ahead_r54.2.2.2.2.2.2.2.2.2.2.2.2.2.2.1
theorem dX8_ahead_81 : decode cX8_ahead 81 = .ok (.if_icmp .ge 12, 3) := dX8_ahead_r54.2.2.2.2.2.2.2.2.2.2.2.2.2.2.2.1
theorem dX8_ahead_r84 : zdcP cX8_ahead 84 [(.aload_n 0, 1), (.getfield 99, 3), (.iload_n 2, 1), (.iaload, 1), (.goto 9, 3), (.aload_n 0, 1), (.bipush (-5), 2), (.invokevirtual 115, 3), (.ireturn, 1), (.iload_n 2, 1), (.iconst 4, 1), (.if_icmp .ne 12, 3), (.aload_n 0, 1), (.getfield 232, 3), (.iload_n 3, 1), (.isub, 1)] := zdcA_ok (by decide +kernel)
theorem dX8_ahead_84 : decode cX8_ahead 84 = .ok (.aload_n 0, 1) := dX8_ahead_r84.1
theorem dX8_ahead_85 : decode cX8_ahead 85 = .ok (.getfield 99, 3) := dX8_ahead_r84.2.1
theorem dX8_ahead_88 : decode cX8_ahead 88 = .ok (.iload_n 2, 1) := dX8_ahead_r84.2.2.1
theorem dX8_ahead_89 : decode cX8_ahead 89 = .ok (.iaload, 1) := dX8_ahead_r84.2.2.2.1
theorem dX8_ahead_90 : decode cX8_ahead 90 = .ok (.goto 9, 3) := dX8_ahead_r84.2.2.2.2.1
theorem dX8_ahead_93 : decode cX8_ahead 93 = .ok (.aload_n 0, 1) := dX8_ahead_r84.2.2.2.2.2.1
theorem dX8_ahead_94 : decode cX8_ahead 94 = .ok (.bipush (-5), 2) := dX8_ahead_r84.2.2.2.2.2.2.1
theorem dX8_ahead_96 : decode cX8_ahead 96 = .ok (.invokevirtual 115, 3) := dX8_ahead_r84.2.2.2.2.2.2.2.1
theorem dX8_ahead_99 : decode cX8_ahead 99 = .ok (.ireturn, 1) := dX8_ahead_r84.2.2.2.2.2.2.2.2.1
theorem dX8_ahead_100 : decode cX8_ahead 100 = .ok (.iload_n 2, 1) := dX8_ahead_r84.2.2.2.2.2.2.2.2.2.1
theorem dX8_ahead_101 : decode cX8_ahead 101 = .ok (.iconst 4, 1) := dX8_ahead_r84.2.2.2.2.2.2.2.2.2.2.1
theorem dX8_ahead_102 : decode cX8_ahead 102 = .ok (.if_icmp .ne 12, 3) := dX8_ahead_r84.2.2.2.2.2.2.2.2.2.2.2.1
theorem dX8_ahead_105 : decode cX8_ahead 105 = .ok (.aload_n 0, 1) := dX8_ahead_r84.2.2.2.2.2.2.2.2.2.2.2.2.1
theorem dX8_ahead_106 : decode cX8_ahead 106 = .ok (.getfield 232, 3) := dX8_ahead_r84.2.2.2.2.2.2.2.2.2.2.2.2.2.1
theorem dX8_ahead_109 : decode cX8_ahead 109 = .ok (.iload_n 3, 1) := dX8_ahead_r84.2.2.2.2.2.2.2.2.2.2.2.2.2.2.1
theorem dX8_ahead_110 : decode cX8_ahead 110 = .ok (.isub, 1) := dX8_ahead_r84.2.2.2.2.2.2.2.2.2.2.2.2.2.2.2.1
theorem dX8_ahead_r111 : zdcP cX8_ahead 111 [(.goto 22, 3), (.iload_n 2, 1), (.iconst 5, 1), (.if_icmp .ne 10, 3), (.aload_n 0, 1), (.getfield 235, 3), (.goto 10, 3), (.aload_n 0, 1), (.getfield 238, 3), (.iload 4, 2), (.isub, 1), (.ireturn, 1)] := zdcA_ok (by decide +kernel)
theorem dX8_ahead_111 : decode cX8_ahead 111 = .ok (.goto 22, 3) := dX8_ahead_r111.1
theorem dX8_ahead_114 : decode cX8_ahead 114 = .ok (.iload_n 2, 1) := dX8_ahead_r111.2.1
theorem dX8_ahead_115 : decode cX8_ahead 115 = .ok (.iconst 5, 1) := dX8_ahead_r111.2.2.1
theorem dX8_ahead_116 : decode cX8_ahead 116 = .ok (.if_icmp .ne 10, 3) := dX8_ahead_r111.2.2.2.1
theorem dX8_ahead_119 : decode cX8_ahead 119 = .ok (.aload_n 0, 1) := dX8_ahead_r111.2.2.2.2.1
theorem dX8_ahead_120 : decode cX8_ahead 120 = .ok (.getfield 235, 3) := dX8_ahead_r111.2.2.2.2.2.1
theorem dX8_ahead_123 : decode cX8_ahead 123 = .ok (.goto 10, 3) := dX8_ahead_r111.2.2.2.2.2.2.1
theorem dX8_ahead_126 : decode cX8_ahead 126 = .ok (.aload_n 0, 1) := dX8_ahead_r111.2.2.2.2.2.2.2.1
theorem dX8_ahead_127 : decode cX8_ahead 127 = .ok (.getfield 238, 3) := dX8_ahead_r111.2.2.2.2.2.2.2.2.1
theorem dX8_ahead_130 : decode cX8_ahead 130 = .ok (.iload 4, 2) := dX8_ahead_r111.2.2.2.2.2.2.2.2.2.1
theorem dX8_ahead_132 : decode cX8_ahead 132 = .ok (.isub, 1) := dX8_ahead_r111.2.2.2.2.2.2.2.2.2.2.1
theorem dX8_ahead_133 : decode cX8_ahead 133 = .ok (.ireturn, 1) := dX8_ahead_r111.2.2.2.2.2.2.2.2.2.2.2.1
def wp_175 (v1 : Int32) (v2 : Int32) (m : zf_Me) (Q : Int32 → zf_Me → Prop) : Prop := ((v2.toInt < (-1) → wp_125 (-5) m (fun x1 m2 => Q x1 m2)) ∧ (v2.toInt ≥ (-1) → ((v2.toInt ≤ 6 → ((v1.toInt < 1 → wp_125 (-6) m (fun x3 m4 => Q x3 m4)) ∧ (v1.toInt ≥ 1 → ((v1.toInt ≤ 4 → (∀ m5, m5 = zf_u m 63 40 (-1) → wp_170 m5 (fun x7 m8 => (∃ nz9, nz9 ≤ 6 ∧ wp_174 nz9 0 v1 x7 m8 (fun m10 => ((¬ v2.toInt = (-1) → ((v2.toInt ≥ 4 → ((¬ v2.toInt = 4 → ((¬ v2.toInt = 5 → Q ((m10.1 63 43) - (m.1 63 11)) m10) ∧ (v2.toInt = 5 → Q (m10.1 63 42) m10))) ∧ (v2.toInt = 4 → Q ((m10.1 63 41) - (m.1 63 10)) m10))) ∧ (v2.toInt < 4 → ((v2.toInt ≥ ((m10.1 63 40)).toInt → wp_125 (-5) m10 (fun x11 m12 => Q x11 m12)) ∧ (v2.toInt < ((m10.1 63 40)).toInt → ((0 ≤ (Int32.toInt v2) ∧ (Int32.toInt v2) < (4 : Int)) ∧ Q (m10.1 84 (Int32.toInt v2).toNat) m10)))))) ∧ (v2.toInt = (-1) → Q (m10.1 63 40) m10))))))) ∧ (v1.toInt > 4 → wp_125 (-6) m (fun x13 m14 => Q x13 m14)))))) ∧ (v2.toInt > 6 → wp_125 (-5) m (fun x15 m16 => Q x15 m16)))))
theorem zr_175 {d : Nat} (hd : 13 ≤ d) {v1 : Int32} {v2 : Int32} {Q : Int32 → zf_Me → Prop} {m : zf_Me} (h : wp_175 v1 v2 m Q) : zf_M d 175 [.inr (.inr (1, 63)), .inl v1, .inl v2] m (zf_I Q) := by
  obtain ⟨e, rfl⟩ : ∃ z, d = z + 1 := ⟨d - 1, by omega⟩
  unfold wp_175 at h
  refine zf_M_of (Nat.le_of_ble_eq_true rfl) zm_175 (L := [some (.inr (.inr (1, 63))), some (.inl v1), some (.inl v2), none, none]) rfl ?_
  refine zf_ld (pc' := 1) (v := .inl v2) dX8_ahead_0 rfl (fun _ _ _ => rfl) rfl rfl rfl ?_
  refine zf_ic (v := (-1)) (pc' := 2) dX8_ahead_1 rfl rfl ?_
  refine zf_icmp_lt (tgt := 11) (pc' := 5) dX8_ahead_2 rfl rfl (fun g => ?_) (fun g => ?_)
  · replace h := h.1 g
    refine zf_ld (pc' := 12) (v := .inr (.inr (1, 63))) dX8_ahead_11 rfl (fun _ _ _ => rfl) rfl rfl rfl ?_
    refine zf_bi (v := (-5)) (pc' := 14) dX8_ahead_12 rfl rfl ?_
    refine zf_iv (k := 125) (pc' := 17) (r := []) dX8_ahead_14 rfl rfl rfl rfl (by decide) rfl rfl rfl (zr_125 (by omega) h) (zf_kI (fun x1 m2 h => ?_))
    exact zf_ri dX8_ahead_17 rfl h
  · replace h := h.2 g
    refine zf_ld (pc' := 6) (v := .inl v2) dX8_ahead_5 rfl (fun _ _ _ => rfl) rfl rfl rfl ?_
    refine zf_bi (v := 6) (pc' := 8) dX8_ahead_6 rfl rfl ?_
    refine zf_icmp_le (tgt := 18) (pc' := 11) dX8_ahead_8 rfl rfl (fun g => ?_) (fun g => ?_)
    · replace h := h.1 g
      refine zf_ld (pc' := 19) (v := .inl v1) dX8_ahead_18 rfl (fun _ _ _ => rfl) rfl rfl rfl ?_
      refine zf_ic (v := 1) (pc' := 20) dX8_ahead_19 rfl rfl ?_
      refine zf_icmp_lt (tgt := 28) (pc' := 23) dX8_ahead_20 rfl rfl (fun g => ?_) (fun g => ?_)
      · replace h := h.1 g
        refine zf_ld (pc' := 29) (v := .inr (.inr (1, 63))) dX8_ahead_28 rfl (fun _ _ _ => rfl) rfl rfl rfl ?_
        refine zf_bi (v := (-6)) (pc' := 31) dX8_ahead_29 rfl rfl ?_
        refine zf_iv (k := 125) (pc' := 34) (r := []) dX8_ahead_31 rfl rfl rfl rfl (by decide) rfl rfl rfl (zr_125 (by omega) h) (zf_kI (fun x3 m4 h => ?_))
        exact zf_ri dX8_ahead_34 rfl h
      · replace h := h.2 g
        refine zf_ld (pc' := 24) (v := .inl v1) dX8_ahead_23 rfl (fun _ _ _ => rfl) rfl rfl rfl ?_
        refine zf_ic (v := 4) (pc' := 25) dX8_ahead_24 rfl rfl ?_
        refine zf_icmp_le (tgt := 35) (pc' := 28) dX8_ahead_25 rfl rfl (fun g => ?_) (fun g => ?_)
        · replace h := h.1 g
          refine zf_ld (pc' := 36) (v := .inr (.inr (1, 63))) dX8_ahead_35 rfl (fun _ _ _ => rfl) rfl rfl rfl ?_
          refine zf_gfi (pc' := 39) dX8_ahead_36 rfl rfl (by decide) rfl rfl ?_
          refine zf_st (pc' := 40) (L2 := [some (.inr (.inr (1, 63))), some (.inl v1), some (.inl v2), some (.inl (m.1 63 10)), none]) dX8_ahead_39 rfl (fun _ _ _ => rfl) rfl rfl rfl rfl rfl rfl ?_
          refine zf_ld (pc' := 41) (v := .inr (.inr (1, 63))) dX8_ahead_40 rfl (fun _ _ _ => rfl) rfl rfl rfl ?_
          refine zf_gfi (pc' := 44) dX8_ahead_41 rfl rfl (by decide) rfl rfl ?_
          refine zf_st (pc' := 46) (L2 := [some (.inr (.inr (1, 63))), some (.inl v1), some (.inl v2), some (.inl (m.1 63 10)), some (.inl (m.1 63 11))]) dX8_ahead_44 rfl (fun _ _ _ => rfl) rfl rfl rfl rfl rfl rfl ?_
          refine zf_ld (pc' := 47) (v := .inr (.inr (1, 63))) dX8_ahead_46 rfl (fun _ _ _ => rfl) rfl rfl rfl ?_
          refine zf_ic (v := (-1)) (pc' := 48) dX8_ahead_47 rfl rfl ?_
          refine zf_pf (pc' := 51) dX8_ahead_48 rfl rfl (by decide) rfl rfl rfl (fun m5 e6 => ?_)
          replace h := h m5 e6
          refine zf_ld (pc' := 52) (v := .inr (.inr (1, 63))) dX8_ahead_51 rfl (fun _ _ _ => rfl) rfl rfl rfl ?_
          refine zf_ic (v := 0) (pc' := 53) dX8_ahead_52 rfl rfl ?_
          refine zf_ld (pc' := 54) (v := .inl v1) dX8_ahead_53 rfl (fun _ _ _ => rfl) rfl rfl rfl ?_
          refine zf_ld (pc' := 55) (v := .inr (.inr (1, 63))) dX8_ahead_54 rfl (fun _ _ _ => rfl) rfl rfl rfl ?_
          refine zf_iv (k := 170) (pc' := 58) (r := [.inl v1, .inl 0, .inr (.inr (1, 63))]) dX8_ahead_55 rfl rfl rfl rfl (by decide) rfl rfl rfl (zr_170 (by omega) h) (zf_kI (fun x7 m8 h => ?_))
          obtain ⟨nz9, hnz9, h⟩ := h
          refine zf_iv (k := 174) (pc' := 61) (r := []) dX8_ahead_58 rfl rfl rfl rfl (by decide) rfl rfl rfl (zr_174 nz9 (by omega) h) (zf_kO (fun m10 h => ?_))
          refine zf_ld (pc' := 62) (v := .inl v2) dX8_ahead_61 rfl (fun _ _ _ => rfl) rfl rfl rfl ?_
          refine zf_ic (v := (-1)) (pc' := 63) dX8_ahead_62 rfl rfl ?_
          refine zf_icmp_ne (tgt := 71) (pc' := 66) dX8_ahead_63 rfl rfl (fun g => ?_) (fun g => ?_)
          · replace h := h.1 g
            refine zf_ld (pc' := 72) (v := .inl v2) dX8_ahead_71 rfl (fun _ _ _ => rfl) rfl rfl rfl ?_
            refine zf_ic (v := 4) (pc' := 73) dX8_ahead_72 rfl rfl ?_
            refine zf_icmp_ge (tgt := 100) (pc' := 76) dX8_ahead_73 rfl rfl (fun g => ?_) (fun g => ?_)
            · replace h := h.1 g
              refine zf_ld (pc' := 101) (v := .inl v2) dX8_ahead_100 rfl (fun _ _ _ => rfl) rfl rfl rfl ?_
              refine zf_ic (v := 4) (pc' := 102) dX8_ahead_101 rfl rfl ?_
              refine zf_icmp_ne (tgt := 114) (pc' := 105) dX8_ahead_102 rfl rfl (fun g => ?_) (fun g => ?_)
              · replace h := h.1 g
                refine zf_ld (pc' := 115) (v := .inl v2) dX8_ahead_114 rfl (fun _ _ _ => rfl) rfl rfl rfl ?_
                refine zf_ic (v := 5) (pc' := 116) dX8_ahead_115 rfl rfl ?_
                refine zf_icmp_ne (tgt := 126) (pc' := 119) dX8_ahead_116 rfl rfl (fun g => ?_) (fun g => ?_)
                · replace h := h.1 g
                  refine zf_ld (pc' := 127) (v := .inr (.inr (1, 63))) dX8_ahead_126 rfl (fun _ _ _ => rfl) rfl rfl rfl ?_
                  refine zf_gfi (pc' := 130) dX8_ahead_127 rfl rfl (by decide) rfl rfl ?_
                  refine zf_ld (pc' := 132) (v := .inl (m.1 63 11)) dX8_ahead_130 rfl (fun _ _ _ => rfl) rfl rfl rfl ?_
                  refine zf_in (pc' := 133) (S' := [.inl ((m10.1 63 43) - (m.1 63 11))]) dX8_ahead_132 rfl (fun _ _ _ => rfl) ?_
                  exact zf_ri dX8_ahead_133 rfl h
                · replace h := h.2 g
                  refine zf_ld (pc' := 120) (v := .inr (.inr (1, 63))) dX8_ahead_119 rfl (fun _ _ _ => rfl) rfl rfl rfl ?_
                  refine zf_gfi (pc' := 123) dX8_ahead_120 rfl rfl (by decide) rfl rfl ?_
                  refine zf_goto (tgt := 133) dX8_ahead_123 rfl ?_
                  exact zf_ri dX8_ahead_133 rfl h
              · replace h := h.2 g
                refine zf_ld (pc' := 106) (v := .inr (.inr (1, 63))) dX8_ahead_105 rfl (fun _ _ _ => rfl) rfl rfl rfl ?_
                refine zf_gfi (pc' := 109) dX8_ahead_106 rfl rfl (by decide) rfl rfl ?_
                refine zf_ld (pc' := 110) (v := .inl (m.1 63 10)) dX8_ahead_109 rfl (fun _ _ _ => rfl) rfl rfl rfl ?_
                refine zf_in (pc' := 111) (S' := [.inl ((m10.1 63 41) - (m.1 63 10))]) dX8_ahead_110 rfl (fun _ _ _ => rfl) ?_
                refine zf_goto (tgt := 133) dX8_ahead_111 rfl ?_
                exact zf_ri dX8_ahead_133 rfl h
            · replace h := h.2 g
              refine zf_ld (pc' := 77) (v := .inl v2) dX8_ahead_76 rfl (fun _ _ _ => rfl) rfl rfl rfl ?_
              refine zf_ld (pc' := 78) (v := .inr (.inr (1, 63))) dX8_ahead_77 rfl (fun _ _ _ => rfl) rfl rfl rfl ?_
              refine zf_gfi (pc' := 81) dX8_ahead_78 rfl rfl (by decide) rfl rfl ?_
              refine zf_icmp_ge (tgt := 93) (pc' := 84) dX8_ahead_81 rfl rfl (fun g => ?_) (fun g => ?_)
              · replace h := h.1 g
                refine zf_ld (pc' := 94) (v := .inr (.inr (1, 63))) dX8_ahead_93 rfl (fun _ _ _ => rfl) rfl rfl rfl ?_
                refine zf_bi (v := (-5)) (pc' := 96) dX8_ahead_94 rfl rfl ?_
                refine zf_iv (k := 125) (pc' := 99) (r := []) dX8_ahead_96 rfl rfl rfl rfl (by decide) rfl rfl rfl (zr_125 (by omega) h) (zf_kI (fun x11 m12 h => ?_))
                exact zf_ri dX8_ahead_99 rfl h
              · replace h := h.2 g
                refine zf_ld (pc' := 85) (v := .inr (.inr (1, 63))) dX8_ahead_84 rfl (fun _ _ _ => rfl) rfl rfl rfl ?_
                refine zf_gfr (pc' := 88) (b := 84) dX8_ahead_85 rfl rfl (by decide) rfl rfl ?_
                refine zf_ld (pc' := 89) (v := .inl v2) dX8_ahead_88 rfl (fun _ _ _ => rfl) rfl rfl rfl ?_
                refine zf_ial (pc' := 90) dX8_ahead_89 rfl (⟨by decide, rfl⟩ : zf_arr 84 4).1 (⟨by decide, rfl⟩ : zf_arr 84 4).2 h.1 rfl ?_
                replace h := h.2
                refine zf_goto (tgt := 99) dX8_ahead_90 rfl ?_
                exact zf_ri dX8_ahead_99 rfl h
          · replace h := h.2 g
            refine zf_ld (pc' := 67) (v := .inr (.inr (1, 63))) dX8_ahead_66 rfl (fun _ _ _ => rfl) rfl rfl rfl ?_
            refine zf_gfi (pc' := 70) dX8_ahead_67 rfl rfl (by decide) rfl rfl ?_
            exact zf_ri dX8_ahead_70 rfl h
        · replace h := h.2 g
          refine zf_ld (pc' := 29) (v := .inr (.inr (1, 63))) dX8_ahead_28 rfl (fun _ _ _ => rfl) rfl rfl rfl ?_
          refine zf_bi (v := (-6)) (pc' := 31) dX8_ahead_29 rfl rfl ?_
          refine zf_iv (k := 125) (pc' := 34) (r := []) dX8_ahead_31 rfl rfl rfl rfl (by decide) rfl rfl rfl (zr_125 (by omega) h) (zf_kI (fun x13 m14 h => ?_))
          exact zf_ri dX8_ahead_34 rfl h
    · replace h := h.2 g
      refine zf_ld (pc' := 12) (v := .inr (.inr (1, 63))) dX8_ahead_11 rfl (fun _ _ _ => rfl) rfl rfl rfl ?_
      refine zf_bi (v := (-5)) (pc' := 14) dX8_ahead_12 rfl rfl ?_
      refine zf_iv (k := 125) (pc' := 17) (r := []) dX8_ahead_14 rfl rfl rfl rfl (by decide) rfl rfl rfl (zr_125 (by omega) h) (zf_kI (fun x15 m16 h => ?_))
      exact zf_ri dX8_ahead_17 rfl h
end
section
/-! part 41: methods 176..: laid by wip/flat/dec.py -/
def zt_176 : zx_MT := (8, yX8_freshest, cX8_freshest, 3, (some FieldType.int), 0, 0)
theorem zm_176 : zx_m 176 = zt_176 := rfl
theorem dX8_freshest_r0 : zdcP cX8_freshest 0 [(.iconst (-1), 1), (.istore_n 1, 1), (.iconst 0, 1), (.istore_n 2, 1), (.iload_n 2, 1), (.aload_n 0, 1), (.getfield 105, 3), (.if_icmp .ge 39, 3), (.aload_n 0, 1), (.iload_n 2, 1), (.invokevirtual 220, 3), (.ifCond .eq 25, 3), (.iload_n 1, 1), (.iconst (-1), 1), (.if_icmp .eq 18, 3), (.aload_n 0, 1)] := zdcA_ok (by decide +kernel)
theorem dX8_freshest_0 : decode cX8_freshest 0 = .ok (.iconst (-1), 1) := dX8_freshest_r0.1
theorem dX8_freshest_1 : decode cX8_freshest 1 = .ok (.istore_n 1, 1) := dX8_freshest_r0.2.1
theorem dX8_freshest_2 : decode cX8_freshest 2 = .ok (.iconst 0, 1) := dX8_freshest_r0.2.2.1
theorem dX8_freshest_3 : decode cX8_freshest 3 = .ok (.istore_n 2, 1) := dX8_freshest_r0.2.2.2.1
theorem dX8_freshest_4 : decode cX8_freshest 4 = .ok (.iload_n 2, 1) := dX8_freshest_r0.2.2.2.2.1
theorem dX8_freshest_5 : decode cX8_freshest 5 = .ok (.aload_n 0, 1) := dX8_freshest_r0.2.2.2.2.2.1
theorem dX8_freshest_6 : decode cX8_freshest 6 = .ok (.getfield 105, 3) := dX8_freshest_r0.2.2.2.2.2.2.1
theorem dX8_freshest_9 : decode cX8_freshest 9 = .ok (.if_icmp .ge 39, 3) := dX8_freshest_r0.2.2.2.2.2.2.2.1
theorem dX8_freshest_12 : decode cX8_freshest 12 = .ok (.aload_n 0, 1) := dX8_freshest_r0.2.2.2.2.2.2.2.2.1
theorem dX8_freshest_13 : decode cX8_freshest 13 = .ok (.iload_n 2, 1) := dX8_freshest_r0.2.2.2.2.2.2.2.2.2.1
theorem dX8_freshest_14 : decode cX8_freshest 14 = .ok (.invokevirtual 220, 3) := dX8_freshest_r0.2.2.2.2.2.2.2.2.2.2.1
theorem dX8_freshest_17 : decode cX8_freshest 17 = .ok (.ifCond .eq 25, 3) := dX8_freshest_r0.2.2.2.2.2.2.2.2.2.2.2.1
theorem dX8_freshest_20 : decode cX8_freshest 20 = .ok (.iload_n 1, 1) := dX8_freshest_r0.2.2.2.2.2.2.2.2.2.2.2.2.1
theorem dX8_freshest_21 : decode cX8_freshest 21 = .ok (.iconst (-1), 1) := dX8_freshest_r0.2.2.2.2.2.2.2.2.2.2.2.2.2.1
theorem dX8_freshest_22 : decode cX8_freshest 22 = .ok (.if_icmp .eq 18, 3) := dX8_freshest_r0.2.2.2.2.2.2.2.2.2.2.2.2.2.2.1
theorem dX8_freshest_25 : decode cX8_freshest 25 = .ok (.aload_n 0, 1) := dX8_freshest_r0.2.2.2.2.2.2.2.2.2.2.2.2.2.2.2.1
theorem dX8_freshest_r26 : zdcP cX8_freshest 26 [(.getfield 53, 3), (.iload_n 2, 1), (.iaload, 1), (.aload_n 0, 1), (.getfield 53, 3), (.iload_n 1, 1), (.iaload, 1), (.if_icmp .ge 5, 3), (.iload_n 2, 1), (.istore_n 1, 1), (.iinc 2 1, 3), (.goto (-41), 3), (.iload_n 1, 1), (.ireturn, 1)] := zdcA_ok (by decide +kernel)
theorem dX8_freshest_26 : decode cX8_freshest 26 = .ok (.getfield 53, 3) := dX8_freshest_r26.1
theorem dX8_freshest_29 : decode cX8_freshest 29 = .ok (.iload_n 2, 1) := dX8_freshest_r26.2.1
theorem dX8_freshest_30 : decode cX8_freshest 30 = .ok (.iaload, 1) := dX8_freshest_r26.2.2.1
theorem dX8_freshest_31 : decode cX8_freshest 31 = .ok (.aload_n 0, 1) := dX8_freshest_r26.2.2.2.1
theorem dX8_freshest_32 : decode cX8_freshest 32 = .ok (.getfield 53, 3) := dX8_freshest_r26.2.2.2.2.1
theorem dX8_freshest_35 : decode cX8_freshest 35 = .ok (.iload_n 1, 1) := dX8_freshest_r26.2.2.2.2.2.1
theorem dX8_freshest_36 : decode cX8_freshest 36 = .ok (.iaload, 1) := dX8_freshest_r26.2.2.2.2.2.2.1
theorem dX8_freshest_37 : decode cX8_freshest 37 = .ok (.if_icmp .ge 5, 3) := dX8_freshest_r26.2.2.2.2.2.2.2.1
theorem dX8_freshest_40 : decode cX8_freshest 40 = .ok (.iload_n 2, 1) := dX8_freshest_r26.2.2.2.2.2.2.2.2.1
theorem dX8_freshest_41 : decode cX8_freshest 41 = .ok (.istore_n 1, 1) := dX8_freshest_r26.2.2.2.2.2.2.2.2.2.1
theorem dX8_freshest_42 : decode cX8_freshest 42 = .ok (.iinc 2 1, 3) := dX8_freshest_r26.2.2.2.2.2.2.2.2.2.2.1
theorem dX8_freshest_45 : decode cX8_freshest 45 = .ok (.goto (-41), 3) := dX8_freshest_r26.2.2.2.2.2.2.2.2.2.2.2.1
theorem dX8_freshest_48 : decode cX8_freshest 48 = .ok (.iload_n 1, 1) := dX8_freshest_r26.2.2.2.2.2.2.2.2.2.2.2.2.1
theorem dX8_freshest_49 : decode cX8_freshest 49 = .ok (.ireturn, 1) := dX8_freshest_r26.2.2.2.2.2.2.2.2.2.2.2.2.2.1
def wq_176_4 (Q : Int32 → zf_Me → Prop) : Nat → Int32 → Int32 → zf_Me → Prop
  | 0, _, _, _ => False
  | n + 1, v1, v2, m => ((v2.toInt ≥ ((m.1 63 1)).toInt → Q v1 m) ∧ (v2.toInt < ((m.1 63 1)).toInt → wp_166 v2 m (fun b1 m2 => ((b1 = false → wq_176_4 Q n v1 (v2 + 1) m2) ∧ (b1 = true → ((v1.toInt = (-1) → wq_176_4 Q n v2 (v2 + 1) m2) ∧ (¬ v1.toInt = (-1) → ((0 ≤ (Int32.toInt v2) ∧ (Int32.toInt v2) < (6 : Int)) ∧ ((0 ≤ (Int32.toInt v1) ∧ (Int32.toInt v1) < (6 : Int)) ∧ ((((m2.1 69 (Int32.toInt v2).toNat)).toInt ≥ ((m2.1 69 (Int32.toInt v1).toNat)).toInt → wq_176_4 Q n v1 (v2 + 1) m2) ∧ (((m2.1 69 (Int32.toInt v2).toNat)).toInt < ((m2.1 69 (Int32.toInt v1).toNat)).toInt → wq_176_4 Q n v2 (v2 + 1) m2)))))))))))
theorem zq_176_4 {d : Nat} (hd : 2 ≤ d) {Q : Int32 → zf_Me → Prop} : ∀ (n : Nat) (v1 : Int32) (v2 : Int32) (m : zf_Me), wq_176_4 Q n v1 v2 m → zf_W none 0 0 d zt_176 4 [some (.inr (.inr (1, 63))), some (.inl v1), some (.inl v2)] [] m (zf_I Q) := by
  obtain ⟨e, rfl⟩ : ∃ z, d = z + 1 := ⟨d - 1, by omega⟩
  intro n
  induction n with
  | zero =>
    intro v1 v2 m h
    exact h.elim
  | succ n ih =>
    intro v1 v2 m h
    unfold wq_176_4 at h
    refine zf_ld (pc' := 5) (v := .inl v2) dX8_freshest_4 rfl (fun _ _ _ => rfl) rfl rfl rfl ?_
    refine zf_ld (pc' := 6) (v := .inr (.inr (1, 63))) dX8_freshest_5 rfl (fun _ _ _ => rfl) rfl rfl rfl ?_
    refine zf_gfi (pc' := 9) dX8_freshest_6 rfl rfl (by decide) rfl rfl ?_
    refine zf_icmp_ge (tgt := 48) (pc' := 12) dX8_freshest_9 rfl rfl (fun g => ?_) (fun g => ?_)
    · replace h := h.1 g
      refine zf_ld (pc' := 49) (v := .inl v1) dX8_freshest_48 rfl (fun _ _ _ => rfl) rfl rfl rfl ?_
      exact zf_ri dX8_freshest_49 rfl h
    · replace h := h.2 g
      refine zf_ld (pc' := 13) (v := .inr (.inr (1, 63))) dX8_freshest_12 rfl (fun _ _ _ => rfl) rfl rfl rfl ?_
      refine zf_ld (pc' := 14) (v := .inl v2) dX8_freshest_13 rfl (fun _ _ _ => rfl) rfl rfl rfl ?_
      refine zf_iv (k := 166) (pc' := 17) (r := []) dX8_freshest_14 rfl rfl rfl rfl (by decide) rfl rfl rfl (zr_166 (by omega) h) (zf_kB (fun b1 m2 h => ?_))
      refine zf_ib_eq (tgt := 42) (pc' := 20) dX8_freshest_17 rfl rfl (fun g => ?_) (fun g => ?_)
      · replace h := h.1 g
        refine zf_ii (y := (v2 + 1)) (L2 := [some (.inr (.inr (1, 63))), some (.inl v1), some (.inl (v2 + 1))]) (pc' := 45) dX8_freshest_42 rfl rfl rfl rfl rfl ?_
        refine zf_goto (tgt := 4) dX8_freshest_45 rfl ?_
        exact zf_lo (ih _ _ _ h) ⟨rfl, rfl, rfl, trivial⟩
      · replace h := h.2 g
        refine zf_ld (pc' := 21) (v := .inl v1) dX8_freshest_20 rfl (fun _ _ _ => rfl) rfl rfl rfl ?_
        refine zf_ic (v := (-1)) (pc' := 22) dX8_freshest_21 rfl rfl ?_
        refine zf_icmp_eq (tgt := 40) (pc' := 25) dX8_freshest_22 rfl rfl (fun g => ?_) (fun g => ?_)
        · replace h := h.1 g
          refine zf_ld (pc' := 41) (v := .inl v2) dX8_freshest_40 rfl (fun _ _ _ => rfl) rfl rfl rfl ?_
          refine zf_st (pc' := 42) (L2 := [some (.inr (.inr (1, 63))), some (.inl v2), some (.inl v2)]) dX8_freshest_41 rfl (fun _ _ _ => rfl) rfl rfl rfl rfl rfl rfl ?_
          refine zf_ii (y := (v2 + 1)) (L2 := [some (.inr (.inr (1, 63))), some (.inl v2), some (.inl (v2 + 1))]) (pc' := 45) dX8_freshest_42 rfl rfl rfl rfl rfl ?_
          refine zf_goto (tgt := 4) dX8_freshest_45 rfl ?_
          exact zf_lo (ih _ _ _ h) ⟨rfl, rfl, rfl, trivial⟩
        · replace h := h.2 g
          refine zf_ld (pc' := 26) (v := .inr (.inr (1, 63))) dX8_freshest_25 rfl (fun _ _ _ => rfl) rfl rfl rfl ?_
          refine zf_gfr (pc' := 29) (b := 69) dX8_freshest_26 rfl rfl (by decide) rfl rfl ?_
          refine zf_ld (pc' := 30) (v := .inl v2) dX8_freshest_29 rfl (fun _ _ _ => rfl) rfl rfl rfl ?_
          refine zf_ial (pc' := 31) dX8_freshest_30 rfl (⟨by decide, rfl⟩ : zf_arr 69 6).1 (⟨by decide, rfl⟩ : zf_arr 69 6).2 h.1 rfl ?_
          replace h := h.2
          refine zf_ld (pc' := 32) (v := .inr (.inr (1, 63))) dX8_freshest_31 rfl (fun _ _ _ => rfl) rfl rfl rfl ?_
          refine zf_gfr (pc' := 35) (b := 69) dX8_freshest_32 rfl rfl (by decide) rfl rfl ?_
          refine zf_ld (pc' := 36) (v := .inl v1) dX8_freshest_35 rfl (fun _ _ _ => rfl) rfl rfl rfl ?_
          refine zf_ial (pc' := 37) dX8_freshest_36 rfl (⟨by decide, rfl⟩ : zf_arr 69 6).1 (⟨by decide, rfl⟩ : zf_arr 69 6).2 h.1 rfl ?_
          replace h := h.2
          refine zf_icmp_ge (tgt := 42) (pc' := 40) dX8_freshest_37 rfl rfl (fun g => ?_) (fun g => ?_)
          · replace h := h.1 g
            refine zf_ii (y := (v2 + 1)) (L2 := [some (.inr (.inr (1, 63))), some (.inl v1), some (.inl (v2 + 1))]) (pc' := 45) dX8_freshest_42 rfl rfl rfl rfl rfl ?_
            refine zf_goto (tgt := 4) dX8_freshest_45 rfl ?_
            exact zf_lo (ih _ _ _ h) ⟨rfl, rfl, rfl, trivial⟩
          · replace h := h.2 g
            refine zf_ld (pc' := 41) (v := .inl v2) dX8_freshest_40 rfl (fun _ _ _ => rfl) rfl rfl rfl ?_
            refine zf_st (pc' := 42) (L2 := [some (.inr (.inr (1, 63))), some (.inl v2), some (.inl v2)]) dX8_freshest_41 rfl (fun _ _ _ => rfl) rfl rfl rfl rfl rfl rfl ?_
            refine zf_ii (y := (v2 + 1)) (L2 := [some (.inr (.inr (1, 63))), some (.inl v2), some (.inl (v2 + 1))]) (pc' := 45) dX8_freshest_42 rfl rfl rfl rfl rfl ?_
            refine zf_goto (tgt := 4) dX8_freshest_45 rfl ?_
            exact zf_lo (ih _ _ _ h) ⟨rfl, rfl, rfl, trivial⟩
def wp_176 (m : zf_Me) (Q : Int32 → zf_Me → Prop) : Prop := (∃ n4, wq_176_4 Q n4 (-1) 0 m)
theorem zr_176 {d : Nat} (hd : 2 ≤ d) {Q : Int32 → zf_Me → Prop} {m : zf_Me} (h : wp_176 m Q) : zf_M d 176 [.inr (.inr (1, 63))] m (zf_I Q) := by
  unfold wp_176 at h
  refine zf_M_of (Nat.le_of_ble_eq_true rfl) zm_176 (L := [some (.inr (.inr (1, 63))), none, none]) rfl ?_
  refine zf_ic (v := (-1)) (pc' := 1) dX8_freshest_0 rfl rfl ?_
  refine zf_st (pc' := 2) (L2 := [some (.inr (.inr (1, 63))), some (.inl (-1)), none]) dX8_freshest_1 rfl (fun _ _ _ => rfl) rfl rfl rfl rfl rfl rfl ?_
  refine zf_ic (v := 0) (pc' := 3) dX8_freshest_2 rfl rfl ?_
  refine zf_st (pc' := 4) (L2 := [some (.inr (.inr (1, 63))), some (.inl (-1)), some (.inl 0)]) dX8_freshest_3 rfl (fun _ _ _ => rfl) rfl rfl rfl rfl rfl rfl ?_
  obtain ⟨n4, h⟩ := h
  exact zf_lo (zq_176_4 (by omega) n4 _ _ _ h) ⟨rfl, rfl, rfl, trivial⟩
def zt_177 : zx_MT := (8, yX8_ruled, cX8_ruled, 4, (some FieldType.int), 1, 0)
theorem zm_177 : zx_m 177 = zt_177 := rfl
theorem dX8_ruled_r0 : zdcP cX8_ruled 0 [(.iload_n 1, 1), (.ifCond .ne 49, 3), (.iconst 0, 1), (.istore_n 2, 1), (.iload_n 2, 1), (.aload_n 0, 1), (.getfield 105, 3), (.if_icmp .ge 39, 3), (.aload_n 0, 1), (.getfield 248, 3), (.iload_n 2, 1), (.iadd, 1), (.aload_n 0, 1), (.getfield 105, 3), (.irem, 1), (.istore_n 3, 1)] := zdcA_ok (by decide +kernel)
theorem dX8_ruled_0 : decode cX8_ruled 0 = .ok (.iload_n 1, 1) := dX8_ruled_r0.1
theorem dX8_ruled_1 : decode cX8_ruled 1 = .ok (.ifCond .ne 49, 3) := dX8_ruled_r0.2.1
theorem dX8_ruled_4 : decode cX8_ruled 4 = .ok (.iconst 0, 1) := dX8_ruled_r0.2.2.1
theorem dX8_ruled_5 : decode cX8_ruled 5 = .ok (.istore_n 2, 1) := dX8_ruled_r0.2.2.2.1
theorem dX8_ruled_6 : decode cX8_ruled 6 = .ok (.iload_n 2, 1) := dX8_ruled_r0.2.2.2.2.1
theorem dX8_ruled_7 : decode cX8_ruled 7 = .ok (.aload_n 0, 1) := dX8_ruled_r0.2.2.2.2.2.1
theorem dX8_ruled_8 : decode cX8_ruled 8 = .ok (.getfield 105, 3) := dX8_ruled_r0.2.2.2.2.2.2.1
theorem dX8_ruled_11 : decode cX8_ruled 11 = .ok (.if_icmp .ge 39, 3) := dX8_ruled_r0.2.2.2.2.2.2.2.1
theorem dX8_ruled_14 : decode cX8_ruled 14 = .ok (.aload_n 0, 1) := dX8_ruled_r0.2.2.2.2.2.2.2.2.1
theorem dX8_ruled_15 : decode cX8_ruled 15 = .ok (.getfield 248, 3) := dX8_ruled_r0.2.2.2.2.2.2.2.2.2.1
theorem dX8_ruled_18 : decode cX8_ruled 18 = .ok (.iload_n 2, 1) := dX8_ruled_r0.2.2.2.2.2.2.2.2.2.2.1
theorem dX8_ruled_19 : decode cX8_ruled 19 = .ok (.iadd, 1) := dX8_ruled_r0.2.2.2.2.2.2.2.2.2.2.2.1
theorem dX8_ruled_20 : decode cX8_ruled 20 = .ok (.aload_n 0, 1) := dX8_ruled_r0.2.2.2.2.2.2.2.2.2.2.2.2.1
theorem dX8_ruled_21 : decode cX8_ruled 21 = .ok (.getfield 105, 3) := dX8_ruled_r0.2.2.2.2.2.2.2.2.2.2.2.2.2.1
theorem dX8_ruled_24 : decode cX8_ruled 24 = .ok (.irem, 1) := dX8_ruled_r0.2.2.2.2.2.2.2.2.2.2.2.2.2.2.1
theorem dX8_ruled_25 : decode cX8_ruled 25 = .ok (.istore_n 3, 1) := dX8_ruled_r0.2.2.2.2.2.2.2.2.2.2.2.2.2.2.2.1
theorem dX8_ruled_r26 : zdcP cX8_ruled 26 [(.aload_n 0, 1), (.iload_n 3, 1), (.invokevirtual 220, 3), (.ifCond .ne 6, 3), (.goto 10, 3), (.aload_n 0, 1), (.iload_n 3, 1), (.putfield 248, 3), (.iload_n 3, 1), (.ireturn, 1), (.iinc 2 1, 3), (.goto (-41), 3), (.iload_n 1, 1), (.iconst 1, 1), (.if_icmp .le 15, 3), (.aload_n 0, 1)] := zdcA_ok (by decide +kernel)
theorem dX8_ruled_26 : decode cX8_ruled 26 = .ok (.aload_n 0, 1) := dX8_ruled_r26.1
theorem dX8_ruled_27 : decode cX8_ruled 27 = .ok (.iload_n 3, 1) := dX8_ruled_r26.2.1
theorem dX8_ruled_28 : decode cX8_ruled 28 = .ok (.invokevirtual 220, 3) := dX8_ruled_r26.2.2.1
theorem dX8_ruled_31 : decode cX8_ruled 31 = .ok (.ifCond .ne 6, 3) := dX8_ruled_r26.2.2.2.1
theorem dX8_ruled_34 : decode cX8_ruled 34 = .ok (.goto 10, 3) := dX8_ruled_r26.2.2.2.2.1
theorem dX8_ruled_37 : decode cX8_ruled 37 = .ok (.aload_n 0, 1) := dX8_ruled_r26.2.2.2.2.2.1
theorem dX8_ruled_38 : decode cX8_ruled 38 = .ok (.iload_n 3, 1) := dX8_ruled_r26.2.2.2.2.2.2.1
theorem dX8_ruled_39 : decode cX8_ruled 39 = .ok (.putfield 248, 3) := dX8_ruled_r26.2.2.2.2.2.2.2.1
theorem dX8_ruled_42 : decode cX8_ruled 42 = .ok (.iload_n 3, 1) := dX8_ruled_r26.2.2.2.2.2.2.2.2.1
theorem dX8_ruled_43 : decode cX8_ruled 43 = .ok (.ireturn, 1) := dX8_ruled_r26.2.2.2.2.2.2.2.2.2.1
theorem dX8_ruled_44 : decode cX8_ruled 44 = .ok (.iinc 2 1, 3) := dX8_ruled_r26.2.2.2.2.2.2.2.2.2.2.1
theorem dX8_ruled_47 : decode cX8_ruled 47 = .ok (.goto (-41), 3) := dX8_ruled_r26.2.2.2.2.2.2.2.2.2.2.2.1
theorem dX8_ruled_50 : decode cX8_ruled 50 = .ok (.iload_n 1, 1) := dX8_ruled_r26.2.2.2.2.2.2.2.2.2.2.2.2.1
theorem dX8_ruled_51 : decode cX8_ruled 51 = .ok (.iconst 1, 1) := dX8_ruled_r26.2.2.2.2.2.2.2.2.2.2.2.2.2.1
theorem dX8_ruled_52 : decode cX8_ruled 52 = .ok (.if_icmp .le 15, 3) := dX8_ruled_r26.2.2.2.2.2.2.2.2.2.2.2.2.2.2.1
theorem dX8_ruled_55 : decode cX8_ruled 55 = .ok (.aload_n 0, 1) := dX8_ruled_r26.2.2.2.2.2.2.2.2.2.2.2.2.2.2.2.1
theorem dX8_ruled_r56 : zdcP cX8_ruled 56 [(.bipush 6, 2), (.invokevirtual 180, 3), (.ifCond .eq 6, 3), (.bipush 6, 2), (.ireturn, 1), (.iload_n 1, 1), (.iconst 3, 1), (.if_icmp .ne 15, 3), (.aload_n 0, 1), (.bipush 7, 2), (.invokevirtual 180, 3), (.ifCond .eq 6, 3), (.bipush 7, 2), (.ireturn, 1), (.iload_n 1, 1), (.iconst 3, 1)] := zdcA_ok (by decide +kernel)
theorem dX8_ruled_56 : decode cX8_ruled 56 = .ok (.bipush 6, 2) := dX8_ruled_r56.1
theorem dX8_ruled_58 : decode cX8_ruled 58 = .ok (.invokevirtual 180, 3) := dX8_ruled_r56.2.1
theorem dX8_ruled_61 : decode cX8_ruled 61 = .ok (.ifCond .eq 6, 3) := dX8_ruled_r56.2.2.1
theorem dX8_ruled_64 : decode cX8_ruled 64 = .ok (.bipush 6, 2) := dX8_ruled_r56.2.2.2.1
theorem dX8_ruled_66 : decode cX8_ruled 66 = .ok (.ireturn, 1) := dX8_ruled_r56.2.2.2.2.1
theorem dX8_ruled_67 : decode cX8_ruled 67 = .ok (.iload_n 1, 1) := dX8_ruled_r56.2.2.2.2.2.1
theorem dX8_ruled_68 : decode cX8_ruled 68 = .ok (.iconst 3, 1) := dX8_ruled_r56.2.2.2.2.2.2.1
theorem dX8_ruled_69 : decode cX8_ruled 69 = .ok (.if_icmp .ne 15, 3) := dX8_ruled_r56.2.2.2.2.2.2.2.1
theorem dX8_ruled_72 : decode cX8_ruled 72 = .ok (.aload_n 0, 1) := dX8_ruled_r56.2.2.2.2.2.2.2.2.1
theorem dX8_ruled_73 : decode cX8_ruled 73 = .ok (.bipush 7, 2) := dX8_ruled_r56.2.2.2.2.2.2.2.2.2.1
theorem dX8_ruled_75 : decode cX8_ruled 75 = .ok (.invokevirtual 180, 3) := dX8_ruled_r56.2.2.2.2.2.2.2.2.2.2.1
theorem dX8_ruled_78 : decode cX8_ruled 78 = .ok (.ifCond .eq 6, 3) := dX8_ruled_r56.2.2.2.2.2.2.2.2.2.2.2.1
theorem dX8_ruled_81 : decode cX8_ruled 81 = .ok (.bipush 7, 2) := dX8_ruled_r56.2.2.2.2.2.2.2.2.2.2.2.2.1
theorem dX8_ruled_83 : decode cX8_ruled 83 = .ok (.ireturn, 1) := dX8_ruled_r56.2.2.2.2.2.2.2.2.2.2.2.2.2.1
theorem dX8_ruled_84 : decode cX8_ruled 84 = .ok (.iload_n 1, 1) := dX8_ruled_r56.2.2.2.2.2.2.2.2.2.2.2.2.2.2.1
theorem dX8_ruled_85 : decode cX8_ruled 85 = .ok (.iconst 3, 1) := dX8_ruled_r56.2.2.2.2.2.2.2.2.2.2.2.2.2.2.2.1
theorem dX8_ruled_r86 : zdcP cX8_ruled 86 [(.if_icmp .ne 15, 3), (.aload_n 0, 1), (.bipush 8, 2), (.invokevirtual 180, 3), (.ifCond .eq 6, 3), (.bipush 8, 2), (.ireturn, 1), (.iload_n 1, 1), (.ifCond .le 15, 3), (.aload_n 0, 1), (.invokevirtual 251, 3), (.istore_n 2, 1), (.iload_n 2, 1), (.iconst (-1), 1), (.if_icmp .eq 5, 3), (.iload_n 2, 1)] := zdcA_ok (by decide +kernel)
theorem dX8_ruled_86 : decode cX8_ruled 86 = .ok (.if_icmp .ne 15, 3) := dX8_ruled_r86.1
theorem dX8_ruled_89 : decode cX8_ruled 89 = .ok (.aload_n 0, 1) := dX8_ruled_r86.2.1
theorem dX8_ruled_90 : decode cX8_ruled 90 = .ok (.bipush 8, 2) := dX8_ruled_r86.2.2.1
theorem dX8_ruled_92 : decode cX8_ruled 92 = .ok (.invokevirtual 180, 3) := dX8_ruled_r86.2.2.2.1
theorem dX8_ruled_95 : decode cX8_ruled 95 = .ok (.ifCond .eq 6, 3) := dX8_ruled_r86.2.2.2.2.1
theorem dX8_ruled_98 : decode cX8_ruled 98 = .ok (.bipush 8, 2) := dX8_ruled_r86.2.2.2.2.2.1
theorem dX8_ruled_100 : decode cX8_ruled 100 = .ok (.ireturn, 1) := dX8_ruled_r86.2.2.2.2.2.2.1
theorem dX8_ruled_101 : decode cX8_ruled 101 = .ok (.iload_n 1, 1) := dX8_ruled_r86.2.2.2.2.2.2.2.1
theorem dX8_ruled_102 : decode cX8_ruled 102 = .ok (.ifCond .le 15, 3) := dX8_ruled_r86.2.2.2.2.2.2.2.2.1
theorem dX8_ruled_105 : decode cX8_ruled 105 = .ok (.aload_n 0, 1) := dX8_ruled_r86.2.2.2.2.2.2.2.2.2.1
theorem dX8_ruled_106 : decode cX8_ruled 106 = .ok (.invokevirtual 251, 3) := dX8_ruled_r86.2.2.2.2.2.2.2.2.2.2.1
theorem dX8_ruled_109 : decode cX8_ruled 109 = .ok (.istore_n 2, 1) := dX8_ruled_r86.2.2.2.2.2.2.2.2.2.2.2.1
theorem dX8_ruled_110 : decode cX8_ruled 110 = .ok (.iload_n 2, 1) := dX8_ruled_r86.2.2.2.2.2.2.2.2.2.2.2.2.1
theorem dX8_ruled_111 : decode cX8_ruled 111 = .ok (.iconst (-1), 1) := dX8_ruled_r86.2.2.2.2.2.2.2.2.2.2.2.2.2.1
theorem dX8_ruled_112 : decode cX8_ruled 112 = .ok (.if_icmp .eq 5, 3) := dX8_ruled_r86.2.2.2.2.2.2.2.2.2.2.2.2.2.2.1
theorem dX8_ruled_115 : decode cX8_ruled 115 = .ok (.iload_n 2, 1) := dX8_ruled_r86.2.2.2.2.2.2.2.2.2.2.2.2.2.2.2.1
theorem dX8_ruled_r116 : zdcP cX8_ruled 116 [(.ireturn, 1), (.aload_n 0, 1), (.bipush 6, 2), (.invokevirtual 180, 3), (.ifCond .eq 8, 3), (.bipush 6, 2), (.goto 18, 3), (.aload_n 0, 1), (.bipush 9, 2), (.invokevirtual 180, 3), (.ifCond .eq 8, 3), (.bipush 9, 2), (.goto 4, 3), (.iconst (-1), 1), (.ireturn, 1)] := zdcA_ok (by decide +kernel)
theorem dX8_ruled_116 : decode cX8_ruled 116 = .ok (.ireturn, 1) := dX8_ruled_r116.1
theorem dX8_ruled_117 : decode cX8_ruled 117 = .ok (.aload_n 0, 1) := dX8_ruled_r116.2.1
theorem dX8_ruled_118 : decode cX8_ruled 118 = .ok (.bipush 6, 2) := dX8_ruled_r116.2.2.1
theorem dX8_ruled_120 : decode cX8_ruled 120 = .ok (.invokevirtual 180, 3) := dX8_ruled_r116.2.2.2.1
theorem dX8_ruled_123 : decode cX8_ruled 123 = .ok (.ifCond .eq 8, 3) := dX8_ruled_r116.2.2.2.2.1
theorem dX8_ruled_126 : decode cX8_ruled 126 = .ok (.bipush 6, 2) := dX8_ruled_r116.2.2.2.2.2.1
theorem dX8_ruled_128 : decode cX8_ruled 128 = .ok (.goto 18, 3) := dX8_ruled_r116.2.2.2.2.2.2.1
theorem dX8_ruled_131 : decode cX8_ruled 131 = .ok (.aload_n 0, 1) := dX8_ruled_r116.2.2.2.2.2.2.2.1
theorem dX8_ruled_132 : decode cX8_ruled 132 = .ok (.bipush 9, 2) := dX8_ruled_r116.2.2.2.2.2.2.2.2.1
theorem dX8_ruled_134 : decode cX8_ruled 134 = .ok (.invokevirtual 180, 3) := dX8_ruled_r116.2.2.2.2.2.2.2.2.2.1
theorem dX8_ruled_137 : decode cX8_ruled 137 = .ok (.ifCond .eq 8, 3) := dX8_ruled_r116.2.2.2.2.2.2.2.2.2.2.1
theorem dX8_ruled_140 : decode cX8_ruled 140 = .ok (.bipush 9, 2) := dX8_ruled_r116.2.2.2.2.2.2.2.2.2.2.2.1
theorem dX8_ruled_142 : decode cX8_ruled 142 = .ok (.goto 4, 3) := dX8_ruled_r116.2.2.2.2.2.2.2.2.2.2.2.2.1
theorem dX8_ruled_145 : decode cX8_ruled 145 = .ok (.iconst (-1), 1) := dX8_ruled_r116.2.2.2.2.2.2.2.2.2.2.2.2.2.1
theorem dX8_ruled_146 : decode cX8_ruled 146 = .ok (.ireturn, 1) := dX8_ruled_r116.2.2.2.2.2.2.2.2.2.2.2.2.2.2.1
def wq_177_117 (v1 : Int32) (m : zf_Me) (Q : Int32 → zf_Me → Prop) : Prop := wp_167 6 m (fun b1 m2 => ((b1 = false → wp_167 9 m2 (fun b3 m4 => ((b3 = false → Q (-1) m4) ∧ (b3 = true → Q 9 m4)))) ∧ (b1 = true → Q 6 m2)))
theorem zq_177_117 {d : Nat} (hd : 3 ≤ d) {v1 : Int32} {Q : Int32 → zf_Me → Prop} {m : zf_Me} (h : wq_177_117 v1 m Q) : zf_W none 0 0 d zt_177 117 [some (.inr (.inr (1, 63))), none, none, none] [] m (zf_I Q) := by
  obtain ⟨e, rfl⟩ : ∃ z, d = z + 1 := ⟨d - 1, by omega⟩
  unfold wq_177_117 at h
  refine zf_ld (pc' := 118) (v := .inr (.inr (1, 63))) dX8_ruled_117 rfl (fun _ _ _ => rfl) rfl rfl rfl ?_
  refine zf_bi (v := 6) (pc' := 120) dX8_ruled_118 rfl rfl ?_
  refine zf_iv (k := 167) (pc' := 123) (r := []) dX8_ruled_120 rfl rfl rfl rfl (by decide) rfl rfl rfl (zr_167 (by omega) h) (zf_kB (fun b1 m2 h => ?_))
  refine zf_ib_eq (tgt := 131) (pc' := 126) dX8_ruled_123 rfl rfl (fun g => ?_) (fun g => ?_)
  · replace h := h.1 g
    refine zf_ld (pc' := 132) (v := .inr (.inr (1, 63))) dX8_ruled_131 rfl (fun _ _ _ => rfl) rfl rfl rfl ?_
    refine zf_bi (v := 9) (pc' := 134) dX8_ruled_132 rfl rfl ?_
    refine zf_iv (k := 167) (pc' := 137) (r := []) dX8_ruled_134 rfl rfl rfl rfl (by decide) rfl rfl rfl (zr_167 (by omega) h) (zf_kB (fun b3 m4 h => ?_))
    refine zf_ib_eq (tgt := 145) (pc' := 140) dX8_ruled_137 rfl rfl (fun g => ?_) (fun g => ?_)
    · replace h := h.1 g
      refine zf_ic (v := (-1)) (pc' := 146) dX8_ruled_145 rfl rfl ?_
      exact zf_ri dX8_ruled_146 rfl h
    · replace h := h.2 g
      refine zf_bi (v := 9) (pc' := 142) dX8_ruled_140 rfl rfl ?_
      refine zf_goto (tgt := 146) dX8_ruled_142 rfl ?_
      exact zf_ri dX8_ruled_146 rfl h
  · replace h := h.2 g
    refine zf_bi (v := 6) (pc' := 128) dX8_ruled_126 rfl rfl ?_
    refine zf_goto (tgt := 146) dX8_ruled_128 rfl ?_
    exact zf_ri dX8_ruled_146 rfl h
def wq_177_101 (v1 : Int32) (m : zf_Me) (Q : Int32 → zf_Me → Prop) : Prop := ((v1.toInt ≤ 0 → wq_177_117 v1 m Q) ∧ (v1.toInt > 0 → wp_176 m (fun x5 m6 => ((x5.toInt = (-1) → wq_177_117 v1 m6 Q) ∧ (¬ x5.toInt = (-1) → Q x5 m6)))))
theorem zq_177_101 {d : Nat} (hd : 3 ≤ d) {v1 : Int32} {Q : Int32 → zf_Me → Prop} {m : zf_Me} (h : wq_177_101 v1 m Q) : zf_W none 0 0 d zt_177 101 [some (.inr (.inr (1, 63))), some (.inl v1), none, none] [] m (zf_I Q) := by
  obtain ⟨e, rfl⟩ : ∃ z, d = z + 1 := ⟨d - 1, by omega⟩
  unfold wq_177_101 at h
  refine zf_ld (pc' := 102) (v := .inl v1) dX8_ruled_101 rfl (fun _ _ _ => rfl) rfl rfl rfl ?_
  refine zf_if_le (tgt := 117) (pc' := 105) dX8_ruled_102 rfl rfl (fun g => ?_) (fun g => ?_)
  · replace h := h.1 g
    exact zf_lo (zq_177_117 (by omega) h) ⟨rfl, trivial⟩
  · replace h := h.2 g
    refine zf_ld (pc' := 106) (v := .inr (.inr (1, 63))) dX8_ruled_105 rfl (fun _ _ _ => rfl) rfl rfl rfl ?_
    refine zf_iv (k := 176) (pc' := 109) (r := []) dX8_ruled_106 rfl rfl rfl rfl (by decide) rfl rfl rfl (zr_176 (by omega) h) (zf_kI (fun x5 m6 h => ?_))
    refine zf_st (pc' := 110) (L2 := [some (.inr (.inr (1, 63))), some (.inl v1), some (.inl x5), none]) dX8_ruled_109 rfl (fun _ _ _ => rfl) rfl rfl rfl rfl rfl rfl ?_
    refine zf_ld (pc' := 111) (v := .inl x5) dX8_ruled_110 rfl (fun _ _ _ => rfl) rfl rfl rfl ?_
    refine zf_ic (v := (-1)) (pc' := 112) dX8_ruled_111 rfl rfl ?_
    refine zf_icmp_eq (tgt := 117) (pc' := 115) dX8_ruled_112 rfl rfl (fun g => ?_) (fun g => ?_)
    · replace h := h.1 g
      exact zf_lo (zq_177_117 (by omega) h) ⟨rfl, trivial⟩
    · replace h := h.2 g
      refine zf_ld (pc' := 116) (v := .inl x5) dX8_ruled_115 rfl (fun _ _ _ => rfl) rfl rfl rfl ?_
      exact zf_ri dX8_ruled_116 rfl h
def wq_177_84 (v1 : Int32) (m : zf_Me) (Q : Int32 → zf_Me → Prop) : Prop := ((¬ v1.toInt = 3 → wq_177_101 v1 m Q) ∧ (v1.toInt = 3 → wp_167 8 m (fun b7 m8 => ((b7 = false → wq_177_101 v1 m8 Q) ∧ (b7 = true → Q 8 m8)))))
theorem zq_177_84 {d : Nat} (hd : 3 ≤ d) {v1 : Int32} {Q : Int32 → zf_Me → Prop} {m : zf_Me} (h : wq_177_84 v1 m Q) : zf_W none 0 0 d zt_177 84 [some (.inr (.inr (1, 63))), some (.inl v1), none, none] [] m (zf_I Q) := by
  obtain ⟨e, rfl⟩ : ∃ z, d = z + 1 := ⟨d - 1, by omega⟩
  unfold wq_177_84 at h
  refine zf_ld (pc' := 85) (v := .inl v1) dX8_ruled_84 rfl (fun _ _ _ => rfl) rfl rfl rfl ?_
  refine zf_ic (v := 3) (pc' := 86) dX8_ruled_85 rfl rfl ?_
  refine zf_icmp_ne (tgt := 101) (pc' := 89) dX8_ruled_86 rfl rfl (fun g => ?_) (fun g => ?_)
  · replace h := h.1 g
    exact zf_lo (zq_177_101 (by omega) h) ⟨rfl, rfl, trivial⟩
  · replace h := h.2 g
    refine zf_ld (pc' := 90) (v := .inr (.inr (1, 63))) dX8_ruled_89 rfl (fun _ _ _ => rfl) rfl rfl rfl ?_
    refine zf_bi (v := 8) (pc' := 92) dX8_ruled_90 rfl rfl ?_
    refine zf_iv (k := 167) (pc' := 95) (r := []) dX8_ruled_92 rfl rfl rfl rfl (by decide) rfl rfl rfl (zr_167 (by omega) h) (zf_kB (fun b7 m8 h => ?_))
    refine zf_ib_eq (tgt := 101) (pc' := 98) dX8_ruled_95 rfl rfl (fun g => ?_) (fun g => ?_)
    · replace h := h.1 g
      exact zf_lo (zq_177_101 (by omega) h) ⟨rfl, rfl, trivial⟩
    · replace h := h.2 g
      refine zf_bi (v := 8) (pc' := 100) dX8_ruled_98 rfl rfl ?_
      exact zf_ri dX8_ruled_100 rfl h
def wq_177_67 (v1 : Int32) (m : zf_Me) (Q : Int32 → zf_Me → Prop) : Prop := ((¬ v1.toInt = 3 → wq_177_84 v1 m Q) ∧ (v1.toInt = 3 → wp_167 7 m (fun b9 m10 => ((b9 = false → wq_177_84 v1 m10 Q) ∧ (b9 = true → Q 7 m10)))))
theorem zq_177_67 {d : Nat} (hd : 3 ≤ d) {v1 : Int32} {Q : Int32 → zf_Me → Prop} {m : zf_Me} (h : wq_177_67 v1 m Q) : zf_W none 0 0 d zt_177 67 [some (.inr (.inr (1, 63))), some (.inl v1), none, none] [] m (zf_I Q) := by
  obtain ⟨e, rfl⟩ : ∃ z, d = z + 1 := ⟨d - 1, by omega⟩
  unfold wq_177_67 at h
  refine zf_ld (pc' := 68) (v := .inl v1) dX8_ruled_67 rfl (fun _ _ _ => rfl) rfl rfl rfl ?_
  refine zf_ic (v := 3) (pc' := 69) dX8_ruled_68 rfl rfl ?_
  refine zf_icmp_ne (tgt := 84) (pc' := 72) dX8_ruled_69 rfl rfl (fun g => ?_) (fun g => ?_)
  · replace h := h.1 g
    exact zf_lo (zq_177_84 (by omega) h) ⟨rfl, rfl, trivial⟩
  · replace h := h.2 g
    refine zf_ld (pc' := 73) (v := .inr (.inr (1, 63))) dX8_ruled_72 rfl (fun _ _ _ => rfl) rfl rfl rfl ?_
    refine zf_bi (v := 7) (pc' := 75) dX8_ruled_73 rfl rfl ?_
    refine zf_iv (k := 167) (pc' := 78) (r := []) dX8_ruled_75 rfl rfl rfl rfl (by decide) rfl rfl rfl (zr_167 (by omega) h) (zf_kB (fun b9 m10 h => ?_))
    refine zf_ib_eq (tgt := 84) (pc' := 81) dX8_ruled_78 rfl rfl (fun g => ?_) (fun g => ?_)
    · replace h := h.1 g
      exact zf_lo (zq_177_84 (by omega) h) ⟨rfl, rfl, trivial⟩
    · replace h := h.2 g
      refine zf_bi (v := 7) (pc' := 83) dX8_ruled_81 rfl rfl ?_
      exact zf_ri dX8_ruled_83 rfl h
def wq_177_50 (v1 : Int32) (m : zf_Me) (Q : Int32 → zf_Me → Prop) : Prop := ((v1.toInt ≤ 1 → wq_177_67 v1 m Q) ∧ (v1.toInt > 1 → wp_167 6 m (fun b11 m12 => ((b11 = false → wq_177_67 v1 m12 Q) ∧ (b11 = true → Q 6 m12)))))
theorem zq_177_50 {d : Nat} (hd : 3 ≤ d) {v1 : Int32} {Q : Int32 → zf_Me → Prop} {m : zf_Me} (h : wq_177_50 v1 m Q) : zf_W none 0 0 d zt_177 50 [some (.inr (.inr (1, 63))), some (.inl v1), none, none] [] m (zf_I Q) := by
  obtain ⟨e, rfl⟩ : ∃ z, d = z + 1 := ⟨d - 1, by omega⟩
  unfold wq_177_50 at h
  refine zf_ld (pc' := 51) (v := .inl v1) dX8_ruled_50 rfl (fun _ _ _ => rfl) rfl rfl rfl ?_
  refine zf_ic (v := 1) (pc' := 52) dX8_ruled_51 rfl rfl ?_
  refine zf_icmp_le (tgt := 67) (pc' := 55) dX8_ruled_52 rfl rfl (fun g => ?_) (fun g => ?_)
  · replace h := h.1 g
    exact zf_lo (zq_177_67 (by omega) h) ⟨rfl, rfl, trivial⟩
  · replace h := h.2 g
    refine zf_ld (pc' := 56) (v := .inr (.inr (1, 63))) dX8_ruled_55 rfl (fun _ _ _ => rfl) rfl rfl rfl ?_
    refine zf_bi (v := 6) (pc' := 58) dX8_ruled_56 rfl rfl ?_
    refine zf_iv (k := 167) (pc' := 61) (r := []) dX8_ruled_58 rfl rfl rfl rfl (by decide) rfl rfl rfl (zr_167 (by omega) h) (zf_kB (fun b11 m12 h => ?_))
    refine zf_ib_eq (tgt := 67) (pc' := 64) dX8_ruled_61 rfl rfl (fun g => ?_) (fun g => ?_)
    · replace h := h.1 g
      exact zf_lo (zq_177_67 (by omega) h) ⟨rfl, rfl, trivial⟩
    · replace h := h.2 g
      refine zf_bi (v := 6) (pc' := 66) dX8_ruled_64 rfl rfl ?_
      exact zf_ri dX8_ruled_66 rfl h
def wq_177_6 (v1 : Int32) (Q : Int32 → zf_Me → Prop) : Nat → Int32 → zf_Me → Prop
  | 0, _, _ => False
  | n + 1, v2, m => ((v2.toInt ≥ ((m.1 63 1)).toInt → wq_177_50 v1 m Q) ∧ (v2.toInt < ((m.1 63 1)).toInt → (¬ (Int32.toInt (m.1 63 1)) = 0 ∧ wp_166 (((m.1 63 44) + v2) - ((m.1 63 44) + v2) / (m.1 63 1) * (m.1 63 1)) m (fun b13 m14 => ((b13 = true → (∀ m15, m15 = zf_u m14 63 44 (((m.1 63 44) + v2) - ((m.1 63 44) + v2) / (m.1 63 1) * (m.1 63 1)) → Q (((m.1 63 44) + v2) - ((m.1 63 44) + v2) / (m.1 63 1) * (m.1 63 1)) m15)) ∧ (b13 = false → wq_177_6 v1 Q n (v2 + 1) m14))))))
theorem zq_177_6 {d : Nat} (hd : 3 ≤ d) {v1 : Int32} {Q : Int32 → zf_Me → Prop} : ∀ (n : Nat) (v2 : Int32) (m : zf_Me), wq_177_6 v1 Q n v2 m → zf_W none 0 0 d zt_177 6 [some (.inr (.inr (1, 63))), some (.inl v1), some (.inl v2), none] [] m (zf_I Q) := by
  obtain ⟨e, rfl⟩ : ∃ z, d = z + 1 := ⟨d - 1, by omega⟩
  intro n
  induction n with
  | zero =>
    intro v2 m h
    exact h.elim
  | succ n ih =>
    intro v2 m h
    unfold wq_177_6 at h
    refine zf_ld (pc' := 7) (v := .inl v2) dX8_ruled_6 rfl (fun _ _ _ => rfl) rfl rfl rfl ?_
    refine zf_ld (pc' := 8) (v := .inr (.inr (1, 63))) dX8_ruled_7 rfl (fun _ _ _ => rfl) rfl rfl rfl ?_
    refine zf_gfi (pc' := 11) dX8_ruled_8 rfl rfl (by decide) rfl rfl ?_
    refine zf_icmp_ge (tgt := 50) (pc' := 14) dX8_ruled_11 rfl rfl (fun g => ?_) (fun g => ?_)
    · replace h := h.1 g
      exact zf_lo (zq_177_50 (by omega) h) ⟨rfl, rfl, trivial⟩
    · replace h := h.2 g
      refine zf_ld (pc' := 15) (v := .inr (.inr (1, 63))) dX8_ruled_14 rfl (fun _ _ _ => rfl) rfl rfl rfl ?_
      refine zf_gfi (pc' := 18) dX8_ruled_15 rfl rfl (by decide) rfl rfl ?_
      refine zf_ld (pc' := 19) (v := .inl v2) dX8_ruled_18 rfl (fun _ _ _ => rfl) rfl rfl rfl ?_
      refine zf_in (pc' := 20) (S' := [.inl ((m.1 63 44) + v2)]) dX8_ruled_19 rfl (fun _ _ _ => rfl) ?_
      refine zf_ld (pc' := 21) (v := .inr (.inr (1, 63))) dX8_ruled_20 rfl (fun _ _ _ => rfl) rfl rfl rfl ?_
      refine zf_gfi (pc' := 24) dX8_ruled_21 rfl rfl (by decide) rfl rfl ?_
      refine zf_rem (pc' := 25) dX8_ruled_24 rfl (fun z => h.1 (congrArg Int32.toInt z)) ?_
      replace h := h.2
      refine zf_st (pc' := 26) (L2 := [some (.inr (.inr (1, 63))), some (.inl v1), some (.inl v2), some (.inl (((m.1 63 44) + v2) - ((m.1 63 44) + v2) / (m.1 63 1) * (m.1 63 1)))]) dX8_ruled_25 rfl (fun _ _ _ => rfl) rfl rfl rfl rfl rfl rfl ?_
      refine zf_ld (pc' := 27) (v := .inr (.inr (1, 63))) dX8_ruled_26 rfl (fun _ _ _ => rfl) rfl rfl rfl ?_
      refine zf_ld (pc' := 28) (v := .inl (((m.1 63 44) + v2) - ((m.1 63 44) + v2) / (m.1 63 1) * (m.1 63 1))) dX8_ruled_27 rfl (fun _ _ _ => rfl) rfl rfl rfl ?_
      refine zf_iv (k := 166) (pc' := 31) (r := []) dX8_ruled_28 rfl rfl rfl rfl (by decide) rfl rfl rfl (zr_166 (by omega) h) (zf_kB (fun b13 m14 h => ?_))
      refine zf_ib_ne (tgt := 37) (pc' := 34) dX8_ruled_31 rfl rfl (fun g => ?_) (fun g => ?_)
      · replace h := h.1 g
        refine zf_ld (pc' := 38) (v := .inr (.inr (1, 63))) dX8_ruled_37 rfl (fun _ _ _ => rfl) rfl rfl rfl ?_
        refine zf_ld (pc' := 39) (v := .inl (((m.1 63 44) + v2) - ((m.1 63 44) + v2) / (m.1 63 1) * (m.1 63 1))) dX8_ruled_38 rfl (fun _ _ _ => rfl) rfl rfl rfl ?_
        refine zf_pf (pc' := 42) dX8_ruled_39 rfl rfl (by decide) rfl rfl rfl (fun m15 e16 => ?_)
        replace h := h m15 e16
        refine zf_ld (pc' := 43) (v := .inl (((m.1 63 44) + v2) - ((m.1 63 44) + v2) / (m.1 63 1) * (m.1 63 1))) dX8_ruled_42 rfl (fun _ _ _ => rfl) rfl rfl rfl ?_
        exact zf_ri dX8_ruled_43 rfl h
      · replace h := h.2 g
        refine zf_goto (tgt := 44) dX8_ruled_34 rfl ?_
        refine zf_ii (y := (v2 + 1)) (L2 := [some (.inr (.inr (1, 63))), some (.inl v1), some (.inl (v2 + 1)), some (.inl (((m.1 63 44) + v2) - ((m.1 63 44) + v2) / (m.1 63 1) * (m.1 63 1)))]) (pc' := 47) dX8_ruled_44 rfl rfl rfl rfl rfl ?_
        refine zf_goto (tgt := 6) dX8_ruled_47 rfl ?_
        exact zf_lo (ih _ _ h) ⟨rfl, rfl, rfl, trivial⟩
def wp_177 (v1 : Int32) (m : zf_Me) (Q : Int32 → zf_Me → Prop) : Prop := ((¬ v1.toInt = 0 → wq_177_50 v1 m Q) ∧ (v1.toInt = 0 → (∃ n6, wq_177_6 v1 Q n6 0 m)))
theorem zr_177 {d : Nat} (hd : 3 ≤ d) {v1 : Int32} {Q : Int32 → zf_Me → Prop} {m : zf_Me} (h : wp_177 v1 m Q) : zf_M d 177 [.inr (.inr (1, 63)), .inl v1] m (zf_I Q) := by
  unfold wp_177 at h
  refine zf_M_of (Nat.le_of_ble_eq_true rfl) zm_177 (L := [some (.inr (.inr (1, 63))), some (.inl v1), none, none]) rfl ?_
  refine zf_ld (pc' := 1) (v := .inl v1) dX8_ruled_0 rfl (fun _ _ _ => rfl) rfl rfl rfl ?_
  refine zf_if_ne (tgt := 50) (pc' := 4) dX8_ruled_1 rfl rfl (fun g => ?_) (fun g => ?_)
  · replace h := h.1 g
    exact zf_lo (zq_177_50 (by omega) h) ⟨rfl, rfl, trivial⟩
  · replace h := h.2 g
    refine zf_ic (v := 0) (pc' := 5) dX8_ruled_4 rfl rfl ?_
    refine zf_st (pc' := 6) (L2 := [some (.inr (.inr (1, 63))), some (.inl v1), some (.inl 0), none]) dX8_ruled_5 rfl (fun _ _ _ => rfl) rfl rfl rfl rfl rfl rfl ?_
    obtain ⟨n6, h⟩ := h
    exact zf_lo (zq_177_6 (by omega) n6 _ _ h) ⟨rfl, rfl, rfl, trivial⟩
def zt_178 : zx_MT := (8, yX8_begins, cX8_begins, 1, none, 0, 0)
theorem zm_178 : zx_m 178 = zt_178 := rfl
theorem dX8_begins_r0 : zdcP cX8_begins 0 [(.aload_n 0, 1), (.iconst 0, 1), (.putfield 248, 3), (.aload_n 0, 1), (.iconst 0, 1), (.putfield 254, 3), (.aload_n 0, 1), (.aload_n 0, 1), (.invokevirtual 241, 3), (.putfield 257, 3), (.return_, 1)] := zdcA_ok (by decide +kernel)
theorem dX8_begins_0 : decode cX8_begins 0 = .ok (.aload_n 0, 1) := dX8_begins_r0.1
theorem dX8_begins_1 : decode cX8_begins 1 = .ok (.iconst 0, 1) := dX8_begins_r0.2.1
theorem dX8_begins_2 : decode cX8_begins 2 = .ok (.putfield 248, 3) := dX8_begins_r0.2.2.1
theorem dX8_begins_5 : decode cX8_begins 5 = .ok (.aload_n 0, 1) := dX8_begins_r0.2.2.2.1
theorem dX8_begins_6 : decode cX8_begins 6 = .ok (.iconst 0, 1) := dX8_begins_r0.2.2.2.2.1
theorem dX8_begins_7 : decode cX8_begins 7 = .ok (.putfield 254, 3) := dX8_begins_r0.2.2.2.2.2.1
theorem dX8_begins_10 : decode cX8_begins 10 = .ok (.aload_n 0, 1) := dX8_begins_r0.2.2.2.2.2.2.1
theorem dX8_begins_11 : decode cX8_begins 11 = .ok (.aload_n 0, 1) := dX8_begins_r0.2.2.2.2.2.2.2.1
theorem dX8_begins_12 : decode cX8_begins 12 = .ok (.invokevirtual 241, 3) := dX8_begins_r0.2.2.2.2.2.2.2.2.1
theorem dX8_begins_15 : decode cX8_begins 15 = .ok (.putfield 257, 3) := dX8_begins_r0.2.2.2.2.2.2.2.2.2.1
theorem dX8_begins_18 : decode cX8_begins 18 = .ok (.return_, 1) := dX8_begins_r0.2.2.2.2.2.2.2.2.2.2.1
def wp_178 (m : zf_Me) (Q : zf_Me → Prop) : Prop := (∀ m1, m1 = zf_u m 63 44 0 → (∀ m3, m3 = zf_u m1 63 46 0 → wp_170 m3 (fun x5 m6 => (∀ m7, m7 = zf_u m6 63 45 x5 → Q m7))))
theorem zr_178 {d : Nat} (hd : 1 ≤ d) {Q : zf_Me → Prop} {m : zf_Me} (h : wp_178 m Q) : zf_M d 178 [.inr (.inr (1, 63))] m (zf_O Q) := by
  obtain ⟨e, rfl⟩ : ∃ z, d = z + 1 := ⟨d - 1, by omega⟩
  unfold wp_178 at h
  refine zf_M_of (Nat.le_of_ble_eq_true rfl) zm_178 (L := [some (.inr (.inr (1, 63)))]) rfl ?_
  refine zf_ld (pc' := 1) (v := .inr (.inr (1, 63))) dX8_begins_0 rfl (fun _ _ _ => rfl) rfl rfl rfl ?_
  refine zf_ic (v := 0) (pc' := 2) dX8_begins_1 rfl rfl ?_
  refine zf_pf (pc' := 5) dX8_begins_2 rfl rfl (by decide) rfl rfl rfl (fun m1 e2 => ?_)
  replace h := h m1 e2
  refine zf_ld (pc' := 6) (v := .inr (.inr (1, 63))) dX8_begins_5 rfl (fun _ _ _ => rfl) rfl rfl rfl ?_
  refine zf_ic (v := 0) (pc' := 7) dX8_begins_6 rfl rfl ?_
  refine zf_pf (pc' := 10) dX8_begins_7 rfl rfl (by decide) rfl rfl rfl (fun m3 e4 => ?_)
  replace h := h m3 e4
  refine zf_ld (pc' := 11) (v := .inr (.inr (1, 63))) dX8_begins_10 rfl (fun _ _ _ => rfl) rfl rfl rfl ?_
  refine zf_ld (pc' := 12) (v := .inr (.inr (1, 63))) dX8_begins_11 rfl (fun _ _ _ => rfl) rfl rfl rfl ?_
  refine zf_iv (k := 170) (pc' := 15) (r := [.inr (.inr (1, 63))]) dX8_begins_12 rfl rfl rfl rfl (by decide) rfl rfl rfl (zr_170 (by omega) h) (zf_kI (fun x5 m6 h => ?_))
  refine zf_pf (pc' := 18) dX8_begins_15 rfl rfl (by decide) rfl rfl rfl (fun m7 e8 => ?_)
  replace h := h m7 e8
  exact zf_rv dX8_begins_18 rfl h
def zt_179 : zx_MT := (8, yX8_goes, cX8_goes, 4, (some FieldType.boolean), 1, 0)
theorem zm_179 : zx_m 179 = zt_179 := rfl
theorem dX8_goes_r0 : zdcP cX8_goes 0 [(.aload_n 0, 1), (.getfield 254, 3), (.bipush 60, 2), (.if_icmp .eq 14, 3), (.aload_n 0, 1), (.getfield 207, 3), (.aload_n 0, 1), (.getfield 108, 3), (.if_icmp .ne 5, 3), (.iconst 0, 1), (.ireturn, 1), (.aload_n 0, 1), (.iload_n 1, 1), (.invokevirtual 260, 3), (.istore_n 2, 1), (.iload_n 2, 1)] := zdcA_ok (by decide +kernel)
theorem dX8_goes_0 : decode cX8_goes 0 = .ok (.aload_n 0, 1) := dX8_goes_r0.1
theorem dX8_goes_1 : decode cX8_goes 1 = .ok (.getfield 254, 3) := dX8_goes_r0.2.1
theorem dX8_goes_4 : decode cX8_goes 4 = .ok (.bipush 60, 2) := dX8_goes_r0.2.2.1
theorem dX8_goes_6 : decode cX8_goes 6 = .ok (.if_icmp .eq 14, 3) := dX8_goes_r0.2.2.2.1
theorem dX8_goes_9 : decode cX8_goes 9 = .ok (.aload_n 0, 1) := dX8_goes_r0.2.2.2.2.1
theorem dX8_goes_10 : decode cX8_goes 10 = .ok (.getfield 207, 3) := dX8_goes_r0.2.2.2.2.2.1
theorem dX8_goes_13 : decode cX8_goes 13 = .ok (.aload_n 0, 1) := dX8_goes_r0.2.2.2.2.2.2.1
theorem dX8_goes_14 : decode cX8_goes 14 = .ok (.getfield 108, 3) := dX8_goes_r0.2.2.2.2.2.2.2.1
theorem dX8_goes_17 : decode cX8_goes 17 = .ok (.if_icmp .ne 5, 3) := dX8_goes_r0.2.2.2.2.2.2.2.2.1
theorem dX8_goes_20 : decode cX8_goes 20 = .ok (.iconst 0, 1) := dX8_goes_r0.2.2.2.2.2.2.2.2.2.1
theorem dX8_goes_21 : decode cX8_goes 21 = .ok (.ireturn, 1) := dX8_goes_r0.2.2.2.2.2.2.2.2.2.2.1
theorem dX8_goes_22 : decode cX8_goes 22 = .ok (.aload_n 0, 1) := dX8_goes_r0.2.2.2.2.2.2.2.2.2.2.2.1
theorem dX8_goes_23 : decode cX8_goes 23 = .ok (.iload_n 1, 1) := dX8_goes_r0.2.2.2.2.2.2.2.2.2.2.2.2.1
theorem dX8_goes_24 : decode cX8_goes 24 = .ok (.invokevirtual 260, 3) := dX8_goes_r0.2.2.2.2.2.2.2.2.2.2.2.2.2.1
theorem dX8_goes_27 : decode cX8_goes 27 = .ok (.istore_n 2, 1) := dX8_goes_r0.2.2.2.2.2.2.2.2.2.2.2.2.2.2.1
theorem dX8_goes_28 : decode cX8_goes 28 = .ok (.iload_n 2, 1) := dX8_goes_r0.2.2.2.2.2.2.2.2.2.2.2.2.2.2.2.1
theorem dX8_goes_r29 : zdcP cX8_goes 29 [(.iconst (-1), 1), (.if_icmp .ne 5, 3), (.iconst 0, 1), (.ireturn, 1), (.aload_n 0, 1), (.iload_n 2, 1), (.invokevirtual 196, 3), (.aload_n 0, 1), (.dup, 1), (.getfield 254, 3), (.iconst 1, 1), (.iadd, 1), (.putfield 254, 3), (.iload_n 2, 1), (.bipush 9, 2), (.if_icmp .eq 40, 3)] := zdcA_ok (by decide +kernel)
theorem dX8_goes_29 : decode cX8_goes 29 = .ok (.iconst (-1), 1) := dX8_goes_r29.1
theorem dX8_goes_30 : decode cX8_goes 30 = .ok (.if_icmp .ne 5, 3) := dX8_goes_r29.2.1
theorem dX8_goes_33 : decode cX8_goes 33 = .ok (.iconst 0, 1) := dX8_goes_r29.2.2.1
theorem dX8_goes_34 : decode cX8_goes 34 = .ok (.ireturn, 1) := dX8_goes_r29.2.2.2.1
theorem dX8_goes_35 : decode cX8_goes 35 = .ok (.aload_n 0, 1) := dX8_goes_r29.2.2.2.2.1
theorem dX8_goes_36 : decode cX8_goes 36 = .ok (.iload_n 2, 1) := dX8_goes_r29.2.2.2.2.2.1
theorem dX8_goes_37 : decode cX8_goes 37 = .ok (.invokevirtual 196, 3) := dX8_goes_r29.2.2.2.2.2.2.1
theorem dX8_goes_40 : decode cX8_goes 40 = .ok (.aload_n 0, 1) := dX8_goes_r29.2.2.2.2.2.2.2.1
theorem dX8_goes_41 : decode cX8_goes 41 = .ok (.dup, 1) := dX8_goes_r29.2.2.2.2.2.2.2.2.1
theorem dX8_goes_42 : decode cX8_goes 42 = .ok (.getfield 254, 3) := dX8_goes_r29.2.2.2.2.2.2.2.2.2.1
theorem dX8_goes_45 : decode cX8_goes 45 = .ok (.iconst 1, 1) := dX8_goes_r29.2.2.2.2.2.2.2.2.2.2.1
theorem dX8_goes_46 : decode cX8_goes 46 = .ok (.iadd, 1) := dX8_goes_r29.2.2.2.2.2.2.2.2.2.2.2.1
theorem dX8_goes_47 : decode cX8_goes 47 = .ok (.putfield 254, 3) := dX8_goes_r29.2.2.2.2.2.2.2.2.2.2.2.2.1
theorem dX8_goes_50 : decode cX8_goes 50 = .ok (.iload_n 2, 1) := dX8_goes_r29.2.2.2.2.2.2.2.2.2.2.2.2.2.1
theorem dX8_goes_51 : decode cX8_goes 51 = .ok (.bipush 9, 2) := dX8_goes_r29.2.2.2.2.2.2.2.2.2.2.2.2.2.2.1
theorem dX8_goes_53 : decode cX8_goes 53 = .ok (.if_icmp .eq 40, 3) := dX8_goes_r29.2.2.2.2.2.2.2.2.2.2.2.2.2.2.2.1
theorem dX8_goes_r56 : zdcP cX8_goes 56 [(.aload_n 0, 1), (.getfield 44, 3), (.aload_n 0, 1), (.getfield 207, 3), (.iconst 1, 1), (.isub, 1), (.iaload, 1), (.iconst 1, 1), (.if_icmp .ne 25, 3), (.aload_n 0, 1), (.getfield 105, 3), (.ifCond .le 18, 3), (.aload_n 0, 1), (.aload_n 0, 1), (.getfield 248, 3), (.iconst 1, 1)] := zdcA_ok (by decide +kernel)
theorem dX8_goes_56 : decode cX8_goes 56 = .ok (.aload_n 0, 1) := dX8_goes_r56.1
theorem dX8_goes_57 : decode cX8_goes 57 = .ok (.getfield 44, 3) := dX8_goes_r56.2.1
theorem dX8_goes_60 : decode cX8_goes 60 = .ok (.aload_n 0, 1) := dX8_goes_r56.2.2.1
theorem dX8_goes_61 : decode cX8_goes 61 = .ok (.getfield 207, 3) := dX8_goes_r56.2.2.2.1
theorem dX8_goes_64 : decode cX8_goes 64 = .ok (.iconst 1, 1) := dX8_goes_r56.2.2.2.2.1
theorem dX8_goes_65 : decode cX8_goes 65 = .ok (.isub, 1) := dX8_goes_r56.2.2.2.2.2.1
theorem dX8_goes_66 : decode cX8_goes 66 = .ok (.iaload, 1) := dX8_goes_r56.2.2.2.2.2.2.1
theorem dX8_goes_67 : decode cX8_goes 67 = .ok (.iconst 1, 1) := dX8_goes_r56.2.2.2.2.2.2.2.1
theorem dX8_goes_68 : decode cX8_goes 68 = .ok (.if_icmp .ne 25, 3) := dX8_goes_r56.2.2.2.2.2.2.2.2.1
theorem dX8_goes_71 : decode cX8_goes 71 = .ok (.aload_n 0, 1) := dX8_goes_r56.2.2.2.2.2.2.2.2.2.1
theorem dX8_goes_72 : decode cX8_goes 72 = .ok (.getfield 105, 3) := dX8_goes_r56.2.2.2.2.2.2.2.2.2.2.1
theorem dX8_goes_75 : decode cX8_goes 75 = .ok (.ifCond .le 18, 3) := dX8_goes_r56.2.2.2.2.2.2.2.2.2.2.2.1
theorem dX8_goes_78 : decode cX8_goes 78 = .ok (.aload_n 0, 1) := dX8_goes_r56.2.2.2.2.2.2.2.2.2.2.2.2.1
theorem dX8_goes_79 : decode cX8_goes 79 = .ok (.aload_n 0, 1) := dX8_goes_r56.2.2.2.2.2.2.2.2.2.2.2.2.2.1
theorem dX8_goes_80 : decode cX8_goes 80 = .ok (.getfield 248, 3) := dX8_goes_r56.2.2.2.2.2.2.2.2.2.2.2.2.2.2.1
theorem dX8_goes_83 : decode cX8_goes 83 = .ok (.iconst 1, 1) := dX8_goes_r56.2.2.2.2.2.2.2.2.2.2.2.2.2.2.2.1
theorem dX8_goes_r84 : zdcP cX8_goes 84 [(.iadd, 1), (.aload_n 0, 1), (.getfield 105, 3), (.irem, 1), (.putfield 248, 3), (.aload_n 0, 1), (.invokevirtual 241, 3), (.istore_n 3, 1), (.aload_n 0, 1), (.iload_n 3, 1), (.aload_n 0, 1), (.getfield 257, 3), (.if_icmp .le 7, 3), (.iload_n 3, 1), (.goto 7, 3), (.aload_n 0, 1)] := zdcA_ok (by decide +kernel)
theorem dX8_goes_84 : decode cX8_goes 84 = .ok (.iadd, 1) := dX8_goes_r84.1
theorem dX8_goes_85 : decode cX8_goes 85 = .ok (.aload_n 0, 1) := dX8_goes_r84.2.1
theorem dX8_goes_86 : decode cX8_goes 86 = .ok (.getfield 105, 3) := dX8_goes_r84.2.2.1
theorem dX8_goes_89 : decode cX8_goes 89 = .ok (.irem, 1) := dX8_goes_r84.2.2.2.1
theorem dX8_goes_90 : decode cX8_goes 90 = .ok (.putfield 248, 3) := dX8_goes_r84.2.2.2.2.1
theorem dX8_goes_93 : decode cX8_goes 93 = .ok (.aload_n 0, 1) := dX8_goes_r84.2.2.2.2.2.1
theorem dX8_goes_94 : decode cX8_goes 94 = .ok (.invokevirtual 241, 3) := dX8_goes_r84.2.2.2.2.2.2.1
theorem dX8_goes_97 : decode cX8_goes 97 = .ok (.istore_n 3, 1) := dX8_goes_r84.2.2.2.2.2.2.2.1
theorem dX8_goes_98 : decode cX8_goes 98 = .ok (.aload_n 0, 1) := dX8_goes_r84.2.2.2.2.2.2.2.2.1
theorem dX8_goes_99 : decode cX8_goes 99 = .ok (.iload_n 3, 1) := dX8_goes_r84.2.2.2.2.2.2.2.2.2.1
theorem dX8_goes_100 : decode cX8_goes 100 = .ok (.aload_n 0, 1) := dX8_goes_r84.2.2.2.2.2.2.2.2.2.2.1
theorem dX8_goes_101 : decode cX8_goes 101 = .ok (.getfield 257, 3) := dX8_goes_r84.2.2.2.2.2.2.2.2.2.2.2.1
theorem dX8_goes_104 : decode cX8_goes 104 = .ok (.if_icmp .le 7, 3) := dX8_goes_r84.2.2.2.2.2.2.2.2.2.2.2.2.1
theorem dX8_goes_107 : decode cX8_goes 107 = .ok (.iload_n 3, 1) := dX8_goes_r84.2.2.2.2.2.2.2.2.2.2.2.2.2.1
theorem dX8_goes_108 : decode cX8_goes 108 = .ok (.goto 7, 3) := dX8_goes_r84.2.2.2.2.2.2.2.2.2.2.2.2.2.2.1
theorem dX8_goes_111 : decode cX8_goes 111 = .ok (.aload_n 0, 1) := dX8_goes_r84.2.2.2.2.2.2.2.2.2.2.2.2.2.2.2.1
theorem dX8_goes_r112 : zdcP cX8_goes 112 [(.getfield 257, 3), (.putfield 257, 3), (.iconst 1, 1), (.ireturn, 1)] := zdcA_ok (by decide +kernel)
theorem dX8_goes_112 : decode cX8_goes 112 = .ok (.getfield 257, 3) := dX8_goes_r112.1
theorem dX8_goes_115 : decode cX8_goes 115 = .ok (.putfield 257, 3) := dX8_goes_r112.2.1
theorem dX8_goes_118 : decode cX8_goes 118 = .ok (.iconst 1, 1) := dX8_goes_r112.2.2.1
theorem dX8_goes_119 : decode cX8_goes 119 = .ok (.ireturn, 1) := dX8_goes_r112.2.2.2.1
def wq_179_93 (v1 : Int32) (m : zf_Me) (Q : Bool → zf_Me → Prop) : Prop := wp_170 m (fun x7 m8 => ((x7.toInt ≤ ((m8.1 63 45)).toInt → (∀ m9, m9 = zf_u m8 63 45 (m8.1 63 45) → Q true m9)) ∧ (x7.toInt > ((m8.1 63 45)).toInt → (∀ m11, m11 = zf_u m8 63 45 x7 → Q true m11))))
theorem zq_179_93 {d : Nat} (hd : 4 ≤ d) {v1 : Int32} {Q : Bool → zf_Me → Prop} {m : zf_Me} (h : wq_179_93 v1 m Q) : zf_W none 0 0 d zt_179 93 [some (.inr (.inr (1, 63))), none, none, none] [] m (zf_B Q) := by
  obtain ⟨e, rfl⟩ : ∃ z, d = z + 1 := ⟨d - 1, by omega⟩
  unfold wq_179_93 at h
  refine zf_ld (pc' := 94) (v := .inr (.inr (1, 63))) dX8_goes_93 rfl (fun _ _ _ => rfl) rfl rfl rfl ?_
  refine zf_iv (k := 170) (pc' := 97) (r := []) dX8_goes_94 rfl rfl rfl rfl (by decide) rfl rfl rfl (zr_170 (by omega) h) (zf_kI (fun x7 m8 h => ?_))
  refine zf_st (pc' := 98) (L2 := [some (.inr (.inr (1, 63))), none, none, some (.inl x7)]) dX8_goes_97 rfl (fun _ _ _ => rfl) rfl rfl rfl rfl rfl rfl ?_
  refine zf_ld (pc' := 99) (v := .inr (.inr (1, 63))) dX8_goes_98 rfl (fun _ _ _ => rfl) rfl rfl rfl ?_
  refine zf_ld (pc' := 100) (v := .inl x7) dX8_goes_99 rfl (fun _ _ _ => rfl) rfl rfl rfl ?_
  refine zf_ld (pc' := 101) (v := .inr (.inr (1, 63))) dX8_goes_100 rfl (fun _ _ _ => rfl) rfl rfl rfl ?_
  refine zf_gfi (pc' := 104) dX8_goes_101 rfl rfl (by decide) rfl rfl ?_
  refine zf_icmp_le (tgt := 111) (pc' := 107) dX8_goes_104 rfl rfl (fun g => ?_) (fun g => ?_)
  · replace h := h.1 g
    refine zf_ld (pc' := 112) (v := .inr (.inr (1, 63))) dX8_goes_111 rfl (fun _ _ _ => rfl) rfl rfl rfl ?_
    refine zf_gfi (pc' := 115) dX8_goes_112 rfl rfl (by decide) rfl rfl ?_
    refine zf_pf (pc' := 118) dX8_goes_115 rfl rfl (by decide) rfl rfl rfl (fun m9 e10 => ?_)
    replace h := h m9 e10
    refine zf_ic (v := 1) (pc' := 119) dX8_goes_118 rfl rfl ?_
    exact zf_rb (b := true) dX8_goes_119 rfl h
  · replace h := h.2 g
    refine zf_ld (pc' := 108) (v := .inl x7) dX8_goes_107 rfl (fun _ _ _ => rfl) rfl rfl rfl ?_
    refine zf_goto (tgt := 115) dX8_goes_108 rfl ?_
    refine zf_pf (pc' := 118) dX8_goes_115 rfl rfl (by decide) rfl rfl rfl (fun m11 e12 => ?_)
    replace h := h m11 e12
    refine zf_ic (v := 1) (pc' := 119) dX8_goes_118 rfl rfl ?_
    exact zf_rb (b := true) dX8_goes_119 rfl h
def wp_179 (v1 : Int32) (m : zf_Me) (Q : Bool → zf_Me → Prop) : Prop := ((((m.1 63 46)).toInt = 60 → Q false m) ∧ (¬ ((m.1 63 46)).toInt = 60 → ((¬ ((m.1 63 10)).toInt = ((m.1 63 0)).toInt → wp_177 v1 m (fun x1 m2 => ((¬ x1.toInt = (-1) → wp_169 x1 m2 (fun m4 => (∀ m5, m5 = zf_u m4 63 46 ((m4.1 63 46) + 1) → ((x1.toInt = 9 → wq_179_93 v1 m5 Q) ∧ (¬ x1.toInt = 9 → ((0 ≤ (Int32.toInt ((m5.1 63 10) - 1)) ∧ (Int32.toInt ((m5.1 63 10) - 1)) < (24 : Int)) ∧ ((¬ ((m5.1 66 (Int32.toInt ((m5.1 63 10) - 1)).toNat)).toInt = 1 → wq_179_93 v1 m5 Q) ∧ (((m5.1 66 (Int32.toInt ((m5.1 63 10) - 1)).toNat)).toInt = 1 → ((((m5.1 63 1)).toInt ≤ 0 → wq_179_93 v1 m5 Q) ∧ (((m5.1 63 1)).toInt > 0 → (¬ (Int32.toInt (m5.1 63 1)) = 0 ∧ (∀ m13, m13 = zf_u m5 63 44 (((m5.1 63 44) + 1) - ((m5.1 63 44) + 1) / (m5.1 63 1) * (m5.1 63 1)) → wq_179_93 v1 m13 Q)))))))))))) ∧ (x1.toInt = (-1) → Q false m2)))) ∧ (((m.1 63 10)).toInt = ((m.1 63 0)).toInt → Q false m))))
theorem zr_179 {d : Nat} (hd : 4 ≤ d) {v1 : Int32} {Q : Bool → zf_Me → Prop} {m : zf_Me} (h : wp_179 v1 m Q) : zf_M d 179 [.inr (.inr (1, 63)), .inl v1] m (zf_B Q) := by
  obtain ⟨e, rfl⟩ : ∃ z, d = z + 1 := ⟨d - 1, by omega⟩
  unfold wp_179 at h
  refine zf_M_of (Nat.le_of_ble_eq_true rfl) zm_179 (L := [some (.inr (.inr (1, 63))), some (.inl v1), none, none]) rfl ?_
  refine zf_ld (pc' := 1) (v := .inr (.inr (1, 63))) dX8_goes_0 rfl (fun _ _ _ => rfl) rfl rfl rfl ?_
  refine zf_gfi (pc' := 4) dX8_goes_1 rfl rfl (by decide) rfl rfl ?_
  refine zf_bi (v := 60) (pc' := 6) dX8_goes_4 rfl rfl ?_
  refine zf_icmp_eq (tgt := 20) (pc' := 9) dX8_goes_6 rfl rfl (fun g => ?_) (fun g => ?_)
  · replace h := h.1 g
    refine zf_ic (v := 0) (pc' := 21) dX8_goes_20 rfl rfl ?_
    exact zf_rb (b := false) dX8_goes_21 rfl h
  · replace h := h.2 g
    refine zf_ld (pc' := 10) (v := .inr (.inr (1, 63))) dX8_goes_9 rfl (fun _ _ _ => rfl) rfl rfl rfl ?_
    refine zf_gfi (pc' := 13) dX8_goes_10 rfl rfl (by decide) rfl rfl ?_
    refine zf_ld (pc' := 14) (v := .inr (.inr (1, 63))) dX8_goes_13 rfl (fun _ _ _ => rfl) rfl rfl rfl ?_
    refine zf_gfi (pc' := 17) dX8_goes_14 rfl rfl (by decide) rfl rfl ?_
    refine zf_icmp_ne (tgt := 22) (pc' := 20) dX8_goes_17 rfl rfl (fun g => ?_) (fun g => ?_)
    · replace h := h.1 g
      refine zf_ld (pc' := 23) (v := .inr (.inr (1, 63))) dX8_goes_22 rfl (fun _ _ _ => rfl) rfl rfl rfl ?_
      refine zf_ld (pc' := 24) (v := .inl v1) dX8_goes_23 rfl (fun _ _ _ => rfl) rfl rfl rfl ?_
      refine zf_iv (k := 177) (pc' := 27) (r := []) dX8_goes_24 rfl rfl rfl rfl (by decide) rfl rfl rfl (zr_177 (by omega) h) (zf_kI (fun x1 m2 h => ?_))
      refine zf_st (pc' := 28) (L2 := [some (.inr (.inr (1, 63))), some (.inl v1), some (.inl x1), none]) dX8_goes_27 rfl (fun _ _ _ => rfl) rfl rfl rfl rfl rfl rfl ?_
      refine zf_ld (pc' := 29) (v := .inl x1) dX8_goes_28 rfl (fun _ _ _ => rfl) rfl rfl rfl ?_
      refine zf_ic (v := (-1)) (pc' := 30) dX8_goes_29 rfl rfl ?_
      refine zf_icmp_ne (tgt := 35) (pc' := 33) dX8_goes_30 rfl rfl (fun g => ?_) (fun g => ?_)
      · replace h := h.1 g
        refine zf_ld (pc' := 36) (v := .inr (.inr (1, 63))) dX8_goes_35 rfl (fun _ _ _ => rfl) rfl rfl rfl ?_
        refine zf_ld (pc' := 37) (v := .inl x1) dX8_goes_36 rfl (fun _ _ _ => rfl) rfl rfl rfl ?_
        refine zf_iv (k := 169) (pc' := 40) (r := []) dX8_goes_37 rfl rfl rfl rfl (by decide) rfl rfl rfl (zr_169 (by omega) h) (zf_kO (fun m4 h => ?_))
        refine zf_ld (pc' := 41) (v := .inr (.inr (1, 63))) dX8_goes_40 rfl (fun _ _ _ => rfl) rfl rfl rfl ?_
        refine zf_in (pc' := 42) (S' := [.inr (.inr (1, 63)), .inr (.inr (1, 63))]) dX8_goes_41 rfl (fun _ _ _ => rfl) ?_
        refine zf_gfi (pc' := 45) dX8_goes_42 rfl rfl (by decide) rfl rfl ?_
        refine zf_ic (v := 1) (pc' := 46) dX8_goes_45 rfl rfl ?_
        refine zf_in (pc' := 47) (S' := [.inl ((m4.1 63 46) + 1), .inr (.inr (1, 63))]) dX8_goes_46 rfl (fun _ _ _ => rfl) ?_
        refine zf_pf (pc' := 50) dX8_goes_47 rfl rfl (by decide) rfl rfl rfl (fun m5 e6 => ?_)
        replace h := h m5 e6
        refine zf_ld (pc' := 51) (v := .inl x1) dX8_goes_50 rfl (fun _ _ _ => rfl) rfl rfl rfl ?_
        refine zf_bi (v := 9) (pc' := 53) dX8_goes_51 rfl rfl ?_
        refine zf_icmp_eq (tgt := 93) (pc' := 56) dX8_goes_53 rfl rfl (fun g => ?_) (fun g => ?_)
        · replace h := h.1 g
          exact zf_lo (zq_179_93 (by omega) h) ⟨rfl, trivial⟩
        · replace h := h.2 g
          refine zf_ld (pc' := 57) (v := .inr (.inr (1, 63))) dX8_goes_56 rfl (fun _ _ _ => rfl) rfl rfl rfl ?_
          refine zf_gfr (pc' := 60) (b := 66) dX8_goes_57 rfl rfl (by decide) rfl rfl ?_
          refine zf_ld (pc' := 61) (v := .inr (.inr (1, 63))) dX8_goes_60 rfl (fun _ _ _ => rfl) rfl rfl rfl ?_
          refine zf_gfi (pc' := 64) dX8_goes_61 rfl rfl (by decide) rfl rfl ?_
          refine zf_ic (v := 1) (pc' := 65) dX8_goes_64 rfl rfl ?_
          refine zf_in (pc' := 66) (S' := [.inl ((m5.1 63 10) - 1), .inr (.inr (1, 66))]) dX8_goes_65 rfl (fun _ _ _ => rfl) ?_
          refine zf_ial (pc' := 67) dX8_goes_66 rfl (⟨by decide, rfl⟩ : zf_arr 66 24).1 (⟨by decide, rfl⟩ : zf_arr 66 24).2 h.1 rfl ?_
          replace h := h.2
          refine zf_ic (v := 1) (pc' := 68) dX8_goes_67 rfl rfl ?_
          refine zf_icmp_ne (tgt := 93) (pc' := 71) dX8_goes_68 rfl rfl (fun g => ?_) (fun g => ?_)
          · replace h := h.1 g
            exact zf_lo (zq_179_93 (by omega) h) ⟨rfl, trivial⟩
          · replace h := h.2 g
            refine zf_ld (pc' := 72) (v := .inr (.inr (1, 63))) dX8_goes_71 rfl (fun _ _ _ => rfl) rfl rfl rfl ?_
            refine zf_gfi (pc' := 75) dX8_goes_72 rfl rfl (by decide) rfl rfl ?_
            refine zf_if_le (tgt := 93) (pc' := 78) dX8_goes_75 rfl rfl (fun g => ?_) (fun g => ?_)
            · replace h := h.1 g
              exact zf_lo (zq_179_93 (by omega) h) ⟨rfl, trivial⟩
            · replace h := h.2 g
              refine zf_ld (pc' := 79) (v := .inr (.inr (1, 63))) dX8_goes_78 rfl (fun _ _ _ => rfl) rfl rfl rfl ?_
              refine zf_ld (pc' := 80) (v := .inr (.inr (1, 63))) dX8_goes_79 rfl (fun _ _ _ => rfl) rfl rfl rfl ?_
              refine zf_gfi (pc' := 83) dX8_goes_80 rfl rfl (by decide) rfl rfl ?_
              refine zf_ic (v := 1) (pc' := 84) dX8_goes_83 rfl rfl ?_
              refine zf_in (pc' := 85) (S' := [.inl ((m5.1 63 44) + 1), .inr (.inr (1, 63))]) dX8_goes_84 rfl (fun _ _ _ => rfl) ?_
              refine zf_ld (pc' := 86) (v := .inr (.inr (1, 63))) dX8_goes_85 rfl (fun _ _ _ => rfl) rfl rfl rfl ?_
              refine zf_gfi (pc' := 89) dX8_goes_86 rfl rfl (by decide) rfl rfl ?_
              refine zf_rem (pc' := 90) dX8_goes_89 rfl (fun z => h.1 (congrArg Int32.toInt z)) ?_
              replace h := h.2
              refine zf_pf (pc' := 93) dX8_goes_90 rfl rfl (by decide) rfl rfl rfl (fun m13 e14 => ?_)
              replace h := h m13 e14
              exact zf_lo (zq_179_93 (by omega) h) ⟨rfl, trivial⟩
      · replace h := h.2 g
        refine zf_ic (v := 0) (pc' := 34) dX8_goes_33 rfl rfl ?_
        exact zf_rb (b := false) dX8_goes_34 rfl h
    · replace h := h.2 g
      refine zf_ic (v := 0) (pc' := 21) dX8_goes_20 rfl rfl ?_
      exact zf_rb (b := false) dX8_goes_21 rfl h
def zt_180 : zx_MT := (8, yX8_isRule, cX8_isRule, 2, (some FieldType.boolean), 1, 0)
theorem zm_180 : zx_m 180 = zt_180 := rfl
theorem dX8_isRule_r0 : zdcP cX8_isRule 0 [(.iload_n 1, 1), (.ifCond .lt 12, 3), (.iload_n 1, 1), (.iconst 3, 1), (.if_icmp .gt 7, 3), (.iconst 1, 1), (.goto 4, 3), (.iconst 0, 1), (.ireturn, 1)] := zdcA_ok (by decide +kernel)
theorem dX8_isRule_0 : decode cX8_isRule 0 = .ok (.iload_n 1, 1) := dX8_isRule_r0.1
theorem dX8_isRule_1 : decode cX8_isRule 1 = .ok (.ifCond .lt 12, 3) := dX8_isRule_r0.2.1
theorem dX8_isRule_4 : decode cX8_isRule 4 = .ok (.iload_n 1, 1) := dX8_isRule_r0.2.2.1
theorem dX8_isRule_5 : decode cX8_isRule 5 = .ok (.iconst 3, 1) := dX8_isRule_r0.2.2.2.1
theorem dX8_isRule_6 : decode cX8_isRule 6 = .ok (.if_icmp .gt 7, 3) := dX8_isRule_r0.2.2.2.2.1
theorem dX8_isRule_9 : decode cX8_isRule 9 = .ok (.iconst 1, 1) := dX8_isRule_r0.2.2.2.2.2.1
theorem dX8_isRule_10 : decode cX8_isRule 10 = .ok (.goto 4, 3) := dX8_isRule_r0.2.2.2.2.2.2.1
theorem dX8_isRule_13 : decode cX8_isRule 13 = .ok (.iconst 0, 1) := dX8_isRule_r0.2.2.2.2.2.2.2.1
theorem dX8_isRule_14 : decode cX8_isRule 14 = .ok (.ireturn, 1) := dX8_isRule_r0.2.2.2.2.2.2.2.2.1
def wp_180 (v1 : Int32) (m : zf_Me) (Q : Bool → zf_Me → Prop) : Prop := ((v1.toInt < 0 → Q false m) ∧ (v1.toInt ≥ 0 → ((v1.toInt > 3 → Q false m) ∧ (v1.toInt ≤ 3 → Q true m))))
theorem zr_180 {d : Nat} (hd : 0 ≤ d) {v1 : Int32} {Q : Bool → zf_Me → Prop} {m : zf_Me} (h : wp_180 v1 m Q) : zf_M d 180 [.inr (.inr (1, 63)), .inl v1] m (zf_B Q) := by
  unfold wp_180 at h
  refine zf_M_of (Nat.le_of_ble_eq_true rfl) zm_180 (L := [some (.inr (.inr (1, 63))), some (.inl v1)]) rfl ?_
  refine zf_ld (pc' := 1) (v := .inl v1) dX8_isRule_0 rfl (fun _ _ _ => rfl) rfl rfl rfl ?_
  refine zf_if_lt (tgt := 13) (pc' := 4) dX8_isRule_1 rfl rfl (fun g => ?_) (fun g => ?_)
  · replace h := h.1 g
    refine zf_ic (v := 0) (pc' := 14) dX8_isRule_13 rfl rfl ?_
    exact zf_rb (b := false) dX8_isRule_14 rfl h
  · replace h := h.2 g
    refine zf_ld (pc' := 5) (v := .inl v1) dX8_isRule_4 rfl (fun _ _ _ => rfl) rfl rfl rfl ?_
    refine zf_ic (v := 3) (pc' := 6) dX8_isRule_5 rfl rfl ?_
    refine zf_icmp_gt (tgt := 13) (pc' := 9) dX8_isRule_6 rfl rfl (fun g => ?_) (fun g => ?_)
    · replace h := h.1 g
      refine zf_ic (v := 0) (pc' := 14) dX8_isRule_13 rfl rfl ?_
      exact zf_rb (b := false) dX8_isRule_14 rfl h
    · replace h := h.2 g
      refine zf_ic (v := 1) (pc' := 10) dX8_isRule_9 rfl rfl ?_
      refine zf_goto (tgt := 14) dX8_isRule_10 rfl ?_
      exact zf_rb (b := true) dX8_isRule_14 rfl h
def zt_181 : zx_MT := (8, yX8_leads, cX8_leads, 3, none, 1, 0)
theorem zm_181 : zx_m 181 = zt_181 := rfl
theorem dX8_leads_r0 : zdcP cX8_leads 0 [(.aload_n 0, 1), (.aload_n 0, 1), (.getfield 90, 3), (.iconst 0, 1), (.iconst 0, 1), (.invokevirtual 213, 3), (.aload_n 0, 1), (.invokevirtual 263, 3), (.iconst 1, 1), (.istore_n 2, 1), (.iload_n 2, 1), (.ifCond .eq 12, 3), (.aload_n 0, 1), (.iload_n 1, 1), (.invokevirtual 266, 3), (.istore_n 2, 1)] := zdcA_ok (by decide +kernel)
theorem dX8_leads_0 : decode cX8_leads 0 = .ok (.aload_n 0, 1) := dX8_leads_r0.1
theorem dX8_leads_1 : decode cX8_leads 1 = .ok (.aload_n 0, 1) := dX8_leads_r0.2.1
theorem dX8_leads_2 : decode cX8_leads 2 = .ok (.getfield 90, 3) := dX8_leads_r0.2.2.1
theorem dX8_leads_5 : decode cX8_leads 5 = .ok (.iconst 0, 1) := dX8_leads_r0.2.2.2.1
theorem dX8_leads_6 : decode cX8_leads 6 = .ok (.iconst 0, 1) := dX8_leads_r0.2.2.2.2.1
theorem dX8_leads_7 : decode cX8_leads 7 = .ok (.invokevirtual 213, 3) := dX8_leads_r0.2.2.2.2.2.1
theorem dX8_leads_10 : decode cX8_leads 10 = .ok (.aload_n 0, 1) := dX8_leads_r0.2.2.2.2.2.2.1
theorem dX8_leads_11 : decode cX8_leads 11 = .ok (.invokevirtual 263, 3) := dX8_leads_r0.2.2.2.2.2.2.2.1
theorem dX8_leads_14 : decode cX8_leads 14 = .ok (.iconst 1, 1) := dX8_leads_r0.2.2.2.2.2.2.2.2.1
theorem dX8_leads_15 : decode cX8_leads 15 = .ok (.istore_n 2, 1) := dX8_leads_r0.2.2.2.2.2.2.2.2.2.1
theorem dX8_leads_16 : decode cX8_leads 16 = .ok (.iload_n 2, 1) := dX8_leads_r0.2.2.2.2.2.2.2.2.2.2.1
theorem dX8_leads_17 : decode cX8_leads 17 = .ok (.ifCond .eq 12, 3) := dX8_leads_r0.2.2.2.2.2.2.2.2.2.2.2.1
theorem dX8_leads_20 : decode cX8_leads 20 = .ok (.aload_n 0, 1) := dX8_leads_r0.2.2.2.2.2.2.2.2.2.2.2.2.1
theorem dX8_leads_21 : decode cX8_leads 21 = .ok (.iload_n 1, 1) := dX8_leads_r0.2.2.2.2.2.2.2.2.2.2.2.2.2.1
theorem dX8_leads_22 : decode cX8_leads 22 = .ok (.invokevirtual 266, 3) := dX8_leads_r0.2.2.2.2.2.2.2.2.2.2.2.2.2.2.1
theorem dX8_leads_25 : decode cX8_leads 25 = .ok (.istore_n 2, 1) := dX8_leads_r0.2.2.2.2.2.2.2.2.2.2.2.2.2.2.2.1
theorem dX8_leads_r26 : zdcP cX8_leads 26 [(.goto (-10), 3), (.aload_n 0, 1), (.aload_n 0, 1), (.getfield 207, 3), (.putfield 269, 3), (.aload_n 0, 1), (.aload_n 0, 1), (.getfield 210, 3), (.putfield 272, 3), (.aload_n 0, 1), (.aload_n 0, 1), (.getfield 257, 3), (.putfield 275, 3), (.return_, 1)] := zdcA_ok (by decide +kernel)
theorem dX8_leads_26 : decode cX8_leads 26 = .ok (.goto (-10), 3) := dX8_leads_r26.1
theorem dX8_leads_29 : decode cX8_leads 29 = .ok (.aload_n 0, 1) := dX8_leads_r26.2.1
theorem dX8_leads_30 : decode cX8_leads 30 = .ok (.aload_n 0, 1) := dX8_leads_r26.2.2.1
theorem dX8_leads_31 : decode cX8_leads 31 = .ok (.getfield 207, 3) := dX8_leads_r26.2.2.2.1
theorem dX8_leads_34 : decode cX8_leads 34 = .ok (.putfield 269, 3) := dX8_leads_r26.2.2.2.2.1
theorem dX8_leads_37 : decode cX8_leads 37 = .ok (.aload_n 0, 1) := dX8_leads_r26.2.2.2.2.2.1
theorem dX8_leads_38 : decode cX8_leads 38 = .ok (.aload_n 0, 1) := dX8_leads_r26.2.2.2.2.2.2.1
theorem dX8_leads_39 : decode cX8_leads 39 = .ok (.getfield 210, 3) := dX8_leads_r26.2.2.2.2.2.2.2.1
theorem dX8_leads_42 : decode cX8_leads 42 = .ok (.putfield 272, 3) := dX8_leads_r26.2.2.2.2.2.2.2.2.1
theorem dX8_leads_45 : decode cX8_leads 45 = .ok (.aload_n 0, 1) := dX8_leads_r26.2.2.2.2.2.2.2.2.2.1
theorem dX8_leads_46 : decode cX8_leads 46 = .ok (.aload_n 0, 1) := dX8_leads_r26.2.2.2.2.2.2.2.2.2.2.1
theorem dX8_leads_47 : decode cX8_leads 47 = .ok (.getfield 257, 3) := dX8_leads_r26.2.2.2.2.2.2.2.2.2.2.2.1
theorem dX8_leads_50 : decode cX8_leads 50 = .ok (.putfield 275, 3) := dX8_leads_r26.2.2.2.2.2.2.2.2.2.2.2.2.1
theorem dX8_leads_53 : decode cX8_leads 53 = .ok (.return_, 1) := dX8_leads_r26.2.2.2.2.2.2.2.2.2.2.2.2.2.1
def wq_181_16 (v1 : Int32) (Q : zf_Me → Prop) : Nat → Int32 → zf_Me → Prop
  | 0, _, _ => False
  | n + 1, v2, m => ((v2.toInt = 0 → (∀ m5, m5 = zf_u m 63 47 (m.1 63 10) → (∀ m7, m7 = zf_u m5 63 48 (m5.1 63 11) → (∀ m9, m9 = zf_u m7 63 49 (m7.1 63 45) → Q m9)))) ∧ (¬ v2.toInt = 0 → wp_179 v1 m (fun b11 m12 => wq_181_16 v1 Q n (zb b11) m12)))
theorem zq_181_16 {d : Nat} (hd : 5 ≤ d) {v1 : Int32} {Q : zf_Me → Prop} : ∀ (n : Nat) (v2 : Int32) (m : zf_Me), wq_181_16 v1 Q n v2 m → zf_W none 0 0 d zt_181 16 [some (.inr (.inr (1, 63))), some (.inl v1), some (.inl v2)] [] m (zf_O Q) := by
  obtain ⟨e, rfl⟩ : ∃ z, d = z + 1 := ⟨d - 1, by omega⟩
  intro n
  induction n with
  | zero =>
    intro v2 m h
    exact h.elim
  | succ n ih =>
    intro v2 m h
    unfold wq_181_16 at h
    refine zf_ld (pc' := 17) (v := .inl v2) dX8_leads_16 rfl (fun _ _ _ => rfl) rfl rfl rfl ?_
    refine zf_if_eq (tgt := 29) (pc' := 20) dX8_leads_17 rfl rfl (fun g => ?_) (fun g => ?_)
    · replace h := h.1 g
      refine zf_ld (pc' := 30) (v := .inr (.inr (1, 63))) dX8_leads_29 rfl (fun _ _ _ => rfl) rfl rfl rfl ?_
      refine zf_ld (pc' := 31) (v := .inr (.inr (1, 63))) dX8_leads_30 rfl (fun _ _ _ => rfl) rfl rfl rfl ?_
      refine zf_gfi (pc' := 34) dX8_leads_31 rfl rfl (by decide) rfl rfl ?_
      refine zf_pf (pc' := 37) dX8_leads_34 rfl rfl (by decide) rfl rfl rfl (fun m5 e6 => ?_)
      replace h := h m5 e6
      refine zf_ld (pc' := 38) (v := .inr (.inr (1, 63))) dX8_leads_37 rfl (fun _ _ _ => rfl) rfl rfl rfl ?_
      refine zf_ld (pc' := 39) (v := .inr (.inr (1, 63))) dX8_leads_38 rfl (fun _ _ _ => rfl) rfl rfl rfl ?_
      refine zf_gfi (pc' := 42) dX8_leads_39 rfl rfl (by decide) rfl rfl ?_
      refine zf_pf (pc' := 45) dX8_leads_42 rfl rfl (by decide) rfl rfl rfl (fun m7 e8 => ?_)
      replace h := h m7 e8
      refine zf_ld (pc' := 46) (v := .inr (.inr (1, 63))) dX8_leads_45 rfl (fun _ _ _ => rfl) rfl rfl rfl ?_
      refine zf_ld (pc' := 47) (v := .inr (.inr (1, 63))) dX8_leads_46 rfl (fun _ _ _ => rfl) rfl rfl rfl ?_
      refine zf_gfi (pc' := 50) dX8_leads_47 rfl rfl (by decide) rfl rfl ?_
      refine zf_pf (pc' := 53) dX8_leads_50 rfl rfl (by decide) rfl rfl rfl (fun m9 e10 => ?_)
      replace h := h m9 e10
      exact zf_rv dX8_leads_53 rfl h
    · replace h := h.2 g
      refine zf_ld (pc' := 21) (v := .inr (.inr (1, 63))) dX8_leads_20 rfl (fun _ _ _ => rfl) rfl rfl rfl ?_
      refine zf_ld (pc' := 22) (v := .inl v1) dX8_leads_21 rfl (fun _ _ _ => rfl) rfl rfl rfl ?_
      refine zf_iv (k := 179) (pc' := 25) (r := []) dX8_leads_22 rfl rfl rfl rfl (by decide) rfl rfl rfl (zr_179 (by omega) h) (zf_kB (fun b11 m12 h => ?_))
      refine zf_st (pc' := 26) (L2 := [some (.inr (.inr (1, 63))), some (.inl v1), some (.inl (zb b11))]) dX8_leads_25 rfl (fun _ _ _ => rfl) rfl rfl rfl rfl rfl rfl ?_
      refine zf_goto (tgt := 16) dX8_leads_26 rfl ?_
      exact zf_lo (ih _ _ h) ⟨rfl, rfl, rfl, trivial⟩
def wp_181 (v1 : Int32) (m : zf_Me) (Q : zf_Me → Prop) : Prop := wp_161 81 90 0 0 m (fun m2 => wp_178 m2 (fun m4 => (∃ n16, wq_181_16 v1 Q n16 1 m4)))
theorem zr_181 {d : Nat} (hd : 5 ≤ d) {v1 : Int32} {Q : zf_Me → Prop} {m : zf_Me} (h : wp_181 v1 m Q) : zf_M d 181 [.inr (.inr (1, 63)), .inl v1] m (zf_O Q) := by
  obtain ⟨e, rfl⟩ : ∃ z, d = z + 1 := ⟨d - 1, by omega⟩
  unfold wp_181 at h
  refine zf_M_of (Nat.le_of_ble_eq_true rfl) zm_181 (L := [some (.inr (.inr (1, 63))), some (.inl v1), none]) rfl ?_
  refine zf_ld (pc' := 1) (v := .inr (.inr (1, 63))) dX8_leads_0 rfl (fun _ _ _ => rfl) rfl rfl rfl ?_
  refine zf_ld (pc' := 2) (v := .inr (.inr (1, 63))) dX8_leads_1 rfl (fun _ _ _ => rfl) rfl rfl rfl ?_
  refine zf_gfr (pc' := 5) (b := 81) dX8_leads_2 rfl rfl (by decide) rfl rfl ?_
  refine zf_ic (v := 0) (pc' := 6) dX8_leads_5 rfl rfl ?_
  refine zf_ic (v := 0) (pc' := 7) dX8_leads_6 rfl rfl ?_
  refine zf_iv (k := 161) (pc' := 10) (r := []) dX8_leads_7 rfl rfl rfl rfl (by decide) rfl rfl rfl (zr_161 (by omega) (⟨by decide, rfl⟩ : zf_arr 81 90) h) (zf_kO (fun m2 h => ?_))
  refine zf_ld (pc' := 11) (v := .inr (.inr (1, 63))) dX8_leads_10 rfl (fun _ _ _ => rfl) rfl rfl rfl ?_
  refine zf_iv (k := 178) (pc' := 14) (r := []) dX8_leads_11 rfl rfl rfl rfl (by decide) rfl rfl rfl (zr_178 (by omega) h) (zf_kO (fun m4 h => ?_))
  refine zf_ic (v := 1) (pc' := 15) dX8_leads_14 rfl rfl ?_
  refine zf_st (pc' := 16) (L2 := [some (.inr (.inr (1, 63))), some (.inl v1), some (.inl 1)]) dX8_leads_15 rfl (fun _ _ _ => rfl) rfl rfl rfl rfl rfl rfl ?_
  obtain ⟨n16, h⟩ := h
  exact zf_lo (zq_181_16 (by omega) n16 _ _ h) ⟨rfl, rfl, rfl, trivial⟩
def zt_182 : zx_MT := (8, yX8_takesBack, cX8_takesBack, 1, none, 0, 0)
theorem zm_182 : zx_m 182 = zt_182 := rfl
theorem dX8_takesBack_r0 : zdcP cX8_takesBack 0 [(.aload_n 0, 1), (.aload_n 0, 1), (.getfield 90, 3), (.iconst 0, 1), (.iconst 1, 1), (.invokevirtual 213, 3), (.return_, 1)] := zdcA_ok (by decide +kernel)
theorem dX8_takesBack_0 : decode cX8_takesBack 0 = .ok (.aload_n 0, 1) := dX8_takesBack_r0.1
theorem dX8_takesBack_1 : decode cX8_takesBack 1 = .ok (.aload_n 0, 1) := dX8_takesBack_r0.2.1
theorem dX8_takesBack_2 : decode cX8_takesBack 2 = .ok (.getfield 90, 3) := dX8_takesBack_r0.2.2.1
theorem dX8_takesBack_5 : decode cX8_takesBack 5 = .ok (.iconst 0, 1) := dX8_takesBack_r0.2.2.2.1
theorem dX8_takesBack_6 : decode cX8_takesBack 6 = .ok (.iconst 1, 1) := dX8_takesBack_r0.2.2.2.2.1
theorem dX8_takesBack_7 : decode cX8_takesBack 7 = .ok (.invokevirtual 213, 3) := dX8_takesBack_r0.2.2.2.2.2.1
theorem dX8_takesBack_10 : decode cX8_takesBack 10 = .ok (.return_, 1) := dX8_takesBack_r0.2.2.2.2.2.2.1
def wp_182 (m : zf_Me) (Q : zf_Me → Prop) : Prop := wp_161 81 90 0 1 m (fun m2 => Q m2)
theorem zr_182 {d : Nat} (hd : 2 ≤ d) {Q : zf_Me → Prop} {m : zf_Me} (h : wp_182 m Q) : zf_M d 182 [.inr (.inr (1, 63))] m (zf_O Q) := by
  obtain ⟨e, rfl⟩ : ∃ z, d = z + 1 := ⟨d - 1, by omega⟩
  unfold wp_182 at h
  refine zf_M_of (Nat.le_of_ble_eq_true rfl) zm_182 (L := [some (.inr (.inr (1, 63)))]) rfl ?_
  refine zf_ld (pc' := 1) (v := .inr (.inr (1, 63))) dX8_takesBack_0 rfl (fun _ _ _ => rfl) rfl rfl rfl ?_
  refine zf_ld (pc' := 2) (v := .inr (.inr (1, 63))) dX8_takesBack_1 rfl (fun _ _ _ => rfl) rfl rfl rfl ?_
  refine zf_gfr (pc' := 5) (b := 81) dX8_takesBack_2 rfl rfl (by decide) rfl rfl ?_
  refine zf_ic (v := 0) (pc' := 6) dX8_takesBack_5 rfl rfl ?_
  refine zf_ic (v := 1) (pc' := 7) dX8_takesBack_6 rfl rfl ?_
  refine zf_iv (k := 161) (pc' := 10) (r := []) dX8_takesBack_7 rfl rfl rfl rfl (by decide) rfl rfl rfl (zr_161 (by omega) (⟨by decide, rfl⟩ : zf_arr 81 90) h) (zf_kO (fun m2 h => ?_))
  exact zf_rv dX8_takesBack_10 rfl h
def zt_183 : zx_MT := (8, yX8_by, cX8_by, 4, (some FieldType.int), 2, 0)
theorem zm_183 : zx_m 183 = zt_183 := rfl
theorem dX8_by_r0 : zdcP cX8_by 0 [(.iload_n 2, 1), (.ifCond .lt 19, 3), (.iload_n 2, 1), (.iconst 3, 1), (.if_icmp .le 21, 3), (.aload_n 0, 1), (.iload_n 2, 1), (.bipush 10, 2), (.isub, 1), (.invokevirtual 119, 3), (.ifCond .ne 10, 3), (.aload_n 0, 1), (.bipush (-5), 2), (.invokevirtual 115, 3), (.ireturn, 1), (.aload_n 0, 1)] := zdcA_ok (by decide +kernel)
theorem dX8_by_0 : decode cX8_by 0 = .ok (.iload_n 2, 1) := dX8_by_r0.1
theorem dX8_by_1 : decode cX8_by 1 = .ok (.ifCond .lt 19, 3) := dX8_by_r0.2.1
theorem dX8_by_4 : decode cX8_by 4 = .ok (.iload_n 2, 1) := dX8_by_r0.2.2.1
theorem dX8_by_5 : decode cX8_by 5 = .ok (.iconst 3, 1) := dX8_by_r0.2.2.2.1
theorem dX8_by_6 : decode cX8_by 6 = .ok (.if_icmp .le 21, 3) := dX8_by_r0.2.2.2.2.1
theorem dX8_by_9 : decode cX8_by 9 = .ok (.aload_n 0, 1) := dX8_by_r0.2.2.2.2.2.1
theorem dX8_by_10 : decode cX8_by 10 = .ok (.iload_n 2, 1) := dX8_by_r0.2.2.2.2.2.2.1
theorem dX8_by_11 : decode cX8_by 11 = .ok (.bipush 10, 2) := dX8_by_r0.2.2.2.2.2.2.2.1
theorem dX8_by_13 : decode cX8_by 13 = .ok (.isub, 1) := dX8_by_r0.2.2.2.2.2.2.2.2.1
theorem dX8_by_14 : decode cX8_by 14 = .ok (.invokevirtual 119, 3) := dX8_by_r0.2.2.2.2.2.2.2.2.2.1
theorem dX8_by_17 : decode cX8_by 17 = .ok (.ifCond .ne 10, 3) := dX8_by_r0.2.2.2.2.2.2.2.2.2.2.1
theorem dX8_by_20 : decode cX8_by 20 = .ok (.aload_n 0, 1) := dX8_by_r0.2.2.2.2.2.2.2.2.2.2.2.1
theorem dX8_by_21 : decode cX8_by 21 = .ok (.bipush (-5), 2) := dX8_by_r0.2.2.2.2.2.2.2.2.2.2.2.2.1
theorem dX8_by_23 : decode cX8_by 23 = .ok (.invokevirtual 115, 3) := dX8_by_r0.2.2.2.2.2.2.2.2.2.2.2.2.2.1
theorem dX8_by_26 : decode cX8_by 26 = .ok (.ireturn, 1) := dX8_by_r0.2.2.2.2.2.2.2.2.2.2.2.2.2.2.1
theorem dX8_by_27 : decode cX8_by 27 = .ok (.aload_n 0, 1) := dX8_by_r0.2.2.2.2.2.2.2.2.2.2.2.2.2.2.2.1
theorem dX8_by_r28 : zdcP cX8_by 28 [(.iload_n 1, 1), (.invokevirtual 278, 3), (.ifCond .ne 10, 3), (.aload_n 0, 1), (.bipush (-6), 2), (.invokevirtual 115, 3), (.ireturn, 1), (.aload_n 0, 1), (.iload_n 1, 1), (.invokevirtual 281, 3), (.iload_n 2, 1), (.ifCond .ne 10, 3), (.aload_n 0, 1), (.getfield 207, 3), (.goto 48, 3), (.iload_n 2, 1)] := zdcA_ok (by decide +kernel)
theorem dX8_by_28 : decode cX8_by 28 = .ok (.iload_n 1, 1) := dX8_by_r28.1
theorem dX8_by_29 : decode cX8_by 29 = .ok (.invokevirtual 278, 3) := dX8_by_r28.2.1
theorem dX8_by_32 : decode cX8_by 32 = .ok (.ifCond .ne 10, 3) := dX8_by_r28.2.2.1
theorem dX8_by_35 : decode cX8_by 35 = .ok (.aload_n 0, 1) := dX8_by_r28.2.2.2.1
theorem dX8_by_36 : decode cX8_by 36 = .ok (.bipush (-6), 2) := dX8_by_r28.2.2.2.2.1
theorem dX8_by_38 : decode cX8_by 38 = .ok (.invokevirtual 115, 3) := dX8_by_r28.2.2.2.2.2.1
theorem dX8_by_41 : decode cX8_by 41 = .ok (.ireturn, 1) := dX8_by_r28.2.2.2.2.2.2.1
theorem dX8_by_42 : decode cX8_by 42 = .ok (.aload_n 0, 1) := dX8_by_r28.2.2.2.2.2.2.2.1
theorem dX8_by_43 : decode cX8_by 43 = .ok (.iload_n 1, 1) := dX8_by_r28.2.2.2.2.2.2.2.2.1
theorem dX8_by_44 : decode cX8_by 44 = .ok (.invokevirtual 281, 3) := dX8_by_r28.2.2.2.2.2.2.2.2.2.1
theorem dX8_by_47 : decode cX8_by 47 = .ok (.iload_n 2, 1) := dX8_by_r28.2.2.2.2.2.2.2.2.2.2.1
theorem dX8_by_48 : decode cX8_by 48 = .ok (.ifCond .ne 10, 3) := dX8_by_r28.2.2.2.2.2.2.2.2.2.2.2.1
theorem dX8_by_51 : decode cX8_by 51 = .ok (.aload_n 0, 1) := dX8_by_r28.2.2.2.2.2.2.2.2.2.2.2.2.1
theorem dX8_by_52 : decode cX8_by 52 = .ok (.getfield 207, 3) := dX8_by_r28.2.2.2.2.2.2.2.2.2.2.2.2.2.1
theorem dX8_by_55 : decode cX8_by 55 = .ok (.goto 48, 3) := dX8_by_r28.2.2.2.2.2.2.2.2.2.2.2.2.2.2.1
theorem dX8_by_58 : decode cX8_by 58 = .ok (.iload_n 2, 1) := dX8_by_r28.2.2.2.2.2.2.2.2.2.2.2.2.2.2.2.1
theorem dX8_by_r59 : zdcP cX8_by 59 [(.iconst 1, 1), (.if_icmp .ne 10, 3), (.aload_n 0, 1), (.getfield 210, 3), (.goto 36, 3), (.iload_n 2, 1), (.iconst 2, 1), (.if_icmp .ne 10, 3), (.aload_n 0, 1), (.getfield 257, 3), (.goto 24, 3), (.iload_n 2, 1), (.iconst 3, 1), (.if_icmp .ne 10, 3), (.aload_n 0, 1), (.getfield 254, 3)] := zdcA_ok (by decide +kernel)
theorem dX8_by_59 : decode cX8_by 59 = .ok (.iconst 1, 1) := dX8_by_r59.1
theorem dX8_by_60 : decode cX8_by 60 = .ok (.if_icmp .ne 10, 3) := dX8_by_r59.2.1
theorem dX8_by_63 : decode cX8_by 63 = .ok (.aload_n 0, 1) := dX8_by_r59.2.2.1
theorem dX8_by_64 : decode cX8_by 64 = .ok (.getfield 210, 3) := dX8_by_r59.2.2.2.1
theorem dX8_by_67 : decode cX8_by 67 = .ok (.goto 36, 3) := dX8_by_r59.2.2.2.2.1
theorem dX8_by_70 : decode cX8_by 70 = .ok (.iload_n 2, 1) := dX8_by_r59.2.2.2.2.2.1
theorem dX8_by_71 : decode cX8_by 71 = .ok (.iconst 2, 1) := dX8_by_r59.2.2.2.2.2.2.1
theorem dX8_by_72 : decode cX8_by 72 = .ok (.if_icmp .ne 10, 3) := dX8_by_r59.2.2.2.2.2.2.2.1
theorem dX8_by_75 : decode cX8_by 75 = .ok (.aload_n 0, 1) := dX8_by_r59.2.2.2.2.2.2.2.2.1
theorem dX8_by_76 : decode cX8_by 76 = .ok (.getfield 257, 3) := dX8_by_r59.2.2.2.2.2.2.2.2.2.1
theorem dX8_by_79 : decode cX8_by 79 = .ok (.goto 24, 3) := dX8_by_r59.2.2.2.2.2.2.2.2.2.2.1
theorem dX8_by_82 : decode cX8_by 82 = .ok (.iload_n 2, 1) := dX8_by_r59.2.2.2.2.2.2.2.2.2.2.2.1
theorem dX8_by_83 : decode cX8_by 83 = .ok (.iconst 3, 1) := dX8_by_r59.2.2.2.2.2.2.2.2.2.2.2.2.1
theorem dX8_by_84 : decode cX8_by 84 = .ok (.if_icmp .ne 10, 3) := dX8_by_r59.2.2.2.2.2.2.2.2.2.2.2.2.2.1
theorem dX8_by_87 : decode cX8_by 87 = .ok (.aload_n 0, 1) := dX8_by_r59.2.2.2.2.2.2.2.2.2.2.2.2.2.2.1
theorem dX8_by_88 : decode cX8_by 88 = .ok (.getfield 254, 3) := dX8_by_r59.2.2.2.2.2.2.2.2.2.2.2.2.2.2.2.1
theorem dX8_by_r91 : zdcP cX8_by 91 [(.goto 12, 3), (.aload_n 0, 1), (.getfield 53, 3), (.iload_n 2, 1), (.bipush 10, 2), (.isub, 1), (.iaload, 1), (.istore_n 3, 1), (.aload_n 0, 1), (.invokevirtual 284, 3), (.iload_n 3, 1), (.ireturn, 1)] := zdcA_ok (by decide +kernel)
theorem dX8_by_91 : decode cX8_by 91 = .ok (.goto 12, 3) := dX8_by_r91.1
theorem dX8_by_94 : decode cX8_by 94 = .ok (.aload_n 0, 1) := dX8_by_r91.2.1
theorem dX8_by_95 : decode cX8_by 95 = .ok (.getfield 53, 3) := dX8_by_r91.2.2.1
theorem dX8_by_98 : decode cX8_by 98 = .ok (.iload_n 2, 1) := dX8_by_r91.2.2.2.1
theorem dX8_by_99 : decode cX8_by 99 = .ok (.bipush 10, 2) := dX8_by_r91.2.2.2.2.1
theorem dX8_by_101 : decode cX8_by 101 = .ok (.isub, 1) := dX8_by_r91.2.2.2.2.2.1
theorem dX8_by_102 : decode cX8_by 102 = .ok (.iaload, 1) := dX8_by_r91.2.2.2.2.2.2.1
theorem dX8_by_103 : decode cX8_by 103 = .ok (.istore_n 3, 1) := dX8_by_r91.2.2.2.2.2.2.2.1
theorem dX8_by_104 : decode cX8_by 104 = .ok (.aload_n 0, 1) := dX8_by_r91.2.2.2.2.2.2.2.2.1
theorem dX8_by_105 : decode cX8_by 105 = .ok (.invokevirtual 284, 3) := dX8_by_r91.2.2.2.2.2.2.2.2.2.1
theorem dX8_by_108 : decode cX8_by 108 = .ok (.iload_n 3, 1) := dX8_by_r91.2.2.2.2.2.2.2.2.2.2.1
theorem dX8_by_109 : decode cX8_by 109 = .ok (.ireturn, 1) := dX8_by_r91.2.2.2.2.2.2.2.2.2.2.2.1
def wq_183_27 (v1 : Int32) (v2 : Int32) (m : zf_Me) (Q : Int32 → zf_Me → Prop) : Prop := wp_180 v1 m (fun b3 m4 => ((b3 = true → wp_181 v1 m4 (fun m6 => ((¬ v2.toInt = 0 → ((¬ v2.toInt = 1 → ((¬ v2.toInt = 2 → ((¬ v2.toInt = 3 → ((0 ≤ (Int32.toInt (v2 - 10)) ∧ (Int32.toInt (v2 - 10)) < (6 : Int)) ∧ wp_182 m6 (fun m8 => Q (m6.1 69 (Int32.toInt (v2 - 10)).toNat) m8))) ∧ (v2.toInt = 3 → wp_182 m6 (fun m10 => Q (m6.1 63 46) m10)))) ∧ (v2.toInt = 2 → wp_182 m6 (fun m12 => Q (m6.1 63 45) m12)))) ∧ (v2.toInt = 1 → wp_182 m6 (fun m14 => Q (m6.1 63 11) m14)))) ∧ (v2.toInt = 0 → wp_182 m6 (fun m16 => Q (m6.1 63 10) m16))))) ∧ (b3 = false → wp_125 (-6) m4 (fun x17 m18 => Q x17 m18))))
theorem zq_183_27 {d : Nat} (hd : 6 ≤ d) {v1 : Int32} {v2 : Int32} {Q : Int32 → zf_Me → Prop} {m : zf_Me} (h : wq_183_27 v1 v2 m Q) : zf_W none 0 0 d zt_183 27 [some (.inr (.inr (1, 63))), some (.inl v1), some (.inl v2), none] [] m (zf_I Q) := by
  obtain ⟨e, rfl⟩ : ∃ z, d = z + 1 := ⟨d - 1, by omega⟩
  unfold wq_183_27 at h
  refine zf_ld (pc' := 28) (v := .inr (.inr (1, 63))) dX8_by_27 rfl (fun _ _ _ => rfl) rfl rfl rfl ?_
  refine zf_ld (pc' := 29) (v := .inl v1) dX8_by_28 rfl (fun _ _ _ => rfl) rfl rfl rfl ?_
  refine zf_iv (k := 180) (pc' := 32) (r := []) dX8_by_29 rfl rfl rfl rfl (by decide) rfl rfl rfl (zr_180 (by omega) h) (zf_kB (fun b3 m4 h => ?_))
  refine zf_ib_ne (tgt := 42) (pc' := 35) dX8_by_32 rfl rfl (fun g => ?_) (fun g => ?_)
  · replace h := h.1 g
    refine zf_ld (pc' := 43) (v := .inr (.inr (1, 63))) dX8_by_42 rfl (fun _ _ _ => rfl) rfl rfl rfl ?_
    refine zf_ld (pc' := 44) (v := .inl v1) dX8_by_43 rfl (fun _ _ _ => rfl) rfl rfl rfl ?_
    refine zf_iv (k := 181) (pc' := 47) (r := []) dX8_by_44 rfl rfl rfl rfl (by decide) rfl rfl rfl (zr_181 (by omega) h) (zf_kO (fun m6 h => ?_))
    refine zf_ld (pc' := 48) (v := .inl v2) dX8_by_47 rfl (fun _ _ _ => rfl) rfl rfl rfl ?_
    refine zf_if_ne (tgt := 58) (pc' := 51) dX8_by_48 rfl rfl (fun g => ?_) (fun g => ?_)
    · replace h := h.1 g
      refine zf_ld (pc' := 59) (v := .inl v2) dX8_by_58 rfl (fun _ _ _ => rfl) rfl rfl rfl ?_
      refine zf_ic (v := 1) (pc' := 60) dX8_by_59 rfl rfl ?_
      refine zf_icmp_ne (tgt := 70) (pc' := 63) dX8_by_60 rfl rfl (fun g => ?_) (fun g => ?_)
      · replace h := h.1 g
        refine zf_ld (pc' := 71) (v := .inl v2) dX8_by_70 rfl (fun _ _ _ => rfl) rfl rfl rfl ?_
        refine zf_ic (v := 2) (pc' := 72) dX8_by_71 rfl rfl ?_
        refine zf_icmp_ne (tgt := 82) (pc' := 75) dX8_by_72 rfl rfl (fun g => ?_) (fun g => ?_)
        · replace h := h.1 g
          refine zf_ld (pc' := 83) (v := .inl v2) dX8_by_82 rfl (fun _ _ _ => rfl) rfl rfl rfl ?_
          refine zf_ic (v := 3) (pc' := 84) dX8_by_83 rfl rfl ?_
          refine zf_icmp_ne (tgt := 94) (pc' := 87) dX8_by_84 rfl rfl (fun g => ?_) (fun g => ?_)
          · replace h := h.1 g
            refine zf_ld (pc' := 95) (v := .inr (.inr (1, 63))) dX8_by_94 rfl (fun _ _ _ => rfl) rfl rfl rfl ?_
            refine zf_gfr (pc' := 98) (b := 69) dX8_by_95 rfl rfl (by decide) rfl rfl ?_
            refine zf_ld (pc' := 99) (v := .inl v2) dX8_by_98 rfl (fun _ _ _ => rfl) rfl rfl rfl ?_
            refine zf_bi (v := 10) (pc' := 101) dX8_by_99 rfl rfl ?_
            refine zf_in (pc' := 102) (S' := [.inl (v2 - 10), .inr (.inr (1, 69))]) dX8_by_101 rfl (fun _ _ _ => rfl) ?_
            refine zf_ial (pc' := 103) dX8_by_102 rfl (⟨by decide, rfl⟩ : zf_arr 69 6).1 (⟨by decide, rfl⟩ : zf_arr 69 6).2 h.1 rfl ?_
            replace h := h.2
            refine zf_st (pc' := 104) (L2 := [some (.inr (.inr (1, 63))), some (.inl v1), some (.inl v2), some (.inl (m6.1 69 (Int32.toInt (v2 - 10)).toNat))]) dX8_by_103 rfl (fun _ _ _ => rfl) rfl rfl rfl rfl rfl rfl ?_
            refine zf_ld (pc' := 105) (v := .inr (.inr (1, 63))) dX8_by_104 rfl (fun _ _ _ => rfl) rfl rfl rfl ?_
            refine zf_iv (k := 182) (pc' := 108) (r := []) dX8_by_105 rfl rfl rfl rfl (by decide) rfl rfl rfl (zr_182 (by omega) h) (zf_kO (fun m8 h => ?_))
            refine zf_ld (pc' := 109) (v := .inl (m6.1 69 (Int32.toInt (v2 - 10)).toNat)) dX8_by_108 rfl (fun _ _ _ => rfl) rfl rfl rfl ?_
            exact zf_ri dX8_by_109 rfl h
          · replace h := h.2 g
            refine zf_ld (pc' := 88) (v := .inr (.inr (1, 63))) dX8_by_87 rfl (fun _ _ _ => rfl) rfl rfl rfl ?_
            refine zf_gfi (pc' := 91) dX8_by_88 rfl rfl (by decide) rfl rfl ?_
            refine zf_goto (tgt := 103) dX8_by_91 rfl ?_
            refine zf_st (pc' := 104) (L2 := [some (.inr (.inr (1, 63))), some (.inl v1), some (.inl v2), some (.inl (m6.1 63 46))]) dX8_by_103 rfl (fun _ _ _ => rfl) rfl rfl rfl rfl rfl rfl ?_
            refine zf_ld (pc' := 105) (v := .inr (.inr (1, 63))) dX8_by_104 rfl (fun _ _ _ => rfl) rfl rfl rfl ?_
            refine zf_iv (k := 182) (pc' := 108) (r := []) dX8_by_105 rfl rfl rfl rfl (by decide) rfl rfl rfl (zr_182 (by omega) h) (zf_kO (fun m10 h => ?_))
            refine zf_ld (pc' := 109) (v := .inl (m6.1 63 46)) dX8_by_108 rfl (fun _ _ _ => rfl) rfl rfl rfl ?_
            exact zf_ri dX8_by_109 rfl h
        · replace h := h.2 g
          refine zf_ld (pc' := 76) (v := .inr (.inr (1, 63))) dX8_by_75 rfl (fun _ _ _ => rfl) rfl rfl rfl ?_
          refine zf_gfi (pc' := 79) dX8_by_76 rfl rfl (by decide) rfl rfl ?_
          refine zf_goto (tgt := 103) dX8_by_79 rfl ?_
          refine zf_st (pc' := 104) (L2 := [some (.inr (.inr (1, 63))), some (.inl v1), some (.inl v2), some (.inl (m6.1 63 45))]) dX8_by_103 rfl (fun _ _ _ => rfl) rfl rfl rfl rfl rfl rfl ?_
          refine zf_ld (pc' := 105) (v := .inr (.inr (1, 63))) dX8_by_104 rfl (fun _ _ _ => rfl) rfl rfl rfl ?_
          refine zf_iv (k := 182) (pc' := 108) (r := []) dX8_by_105 rfl rfl rfl rfl (by decide) rfl rfl rfl (zr_182 (by omega) h) (zf_kO (fun m12 h => ?_))
          refine zf_ld (pc' := 109) (v := .inl (m6.1 63 45)) dX8_by_108 rfl (fun _ _ _ => rfl) rfl rfl rfl ?_
          exact zf_ri dX8_by_109 rfl h
      · replace h := h.2 g
        refine zf_ld (pc' := 64) (v := .inr (.inr (1, 63))) dX8_by_63 rfl (fun _ _ _ => rfl) rfl rfl rfl ?_
        refine zf_gfi (pc' := 67) dX8_by_64 rfl rfl (by decide) rfl rfl ?_
        refine zf_goto (tgt := 103) dX8_by_67 rfl ?_
        refine zf_st (pc' := 104) (L2 := [some (.inr (.inr (1, 63))), some (.inl v1), some (.inl v2), some (.inl (m6.1 63 11))]) dX8_by_103 rfl (fun _ _ _ => rfl) rfl rfl rfl rfl rfl rfl ?_
        refine zf_ld (pc' := 105) (v := .inr (.inr (1, 63))) dX8_by_104 rfl (fun _ _ _ => rfl) rfl rfl rfl ?_
        refine zf_iv (k := 182) (pc' := 108) (r := []) dX8_by_105 rfl rfl rfl rfl (by decide) rfl rfl rfl (zr_182 (by omega) h) (zf_kO (fun m14 h => ?_))
        refine zf_ld (pc' := 109) (v := .inl (m6.1 63 11)) dX8_by_108 rfl (fun _ _ _ => rfl) rfl rfl rfl ?_
        exact zf_ri dX8_by_109 rfl h
    · replace h := h.2 g
      refine zf_ld (pc' := 52) (v := .inr (.inr (1, 63))) dX8_by_51 rfl (fun _ _ _ => rfl) rfl rfl rfl ?_
      refine zf_gfi (pc' := 55) dX8_by_52 rfl rfl (by decide) rfl rfl ?_
      refine zf_goto (tgt := 103) dX8_by_55 rfl ?_
      refine zf_st (pc' := 104) (L2 := [some (.inr (.inr (1, 63))), some (.inl v1), some (.inl v2), some (.inl (m6.1 63 10))]) dX8_by_103 rfl (fun _ _ _ => rfl) rfl rfl rfl rfl rfl rfl ?_
      refine zf_ld (pc' := 105) (v := .inr (.inr (1, 63))) dX8_by_104 rfl (fun _ _ _ => rfl) rfl rfl rfl ?_
      refine zf_iv (k := 182) (pc' := 108) (r := []) dX8_by_105 rfl rfl rfl rfl (by decide) rfl rfl rfl (zr_182 (by omega) h) (zf_kO (fun m16 h => ?_))
      refine zf_ld (pc' := 109) (v := .inl (m6.1 63 10)) dX8_by_108 rfl (fun _ _ _ => rfl) rfl rfl rfl ?_
      exact zf_ri dX8_by_109 rfl h
  · replace h := h.2 g
    refine zf_ld (pc' := 36) (v := .inr (.inr (1, 63))) dX8_by_35 rfl (fun _ _ _ => rfl) rfl rfl rfl ?_
    refine zf_bi (v := (-6)) (pc' := 38) dX8_by_36 rfl rfl ?_
    refine zf_iv (k := 125) (pc' := 41) (r := []) dX8_by_38 rfl rfl rfl rfl (by decide) rfl rfl rfl (zr_125 (by omega) h) (zf_kI (fun x17 m18 h => ?_))
    exact zf_ri dX8_by_41 rfl h
def wp_183 (v1 : Int32) (v2 : Int32) (m : zf_Me) (Q : Int32 → zf_Me → Prop) : Prop := ((v2.toInt < 0 → wp_125 (-5) m (fun x1 m2 => Q x1 m2)) ∧ (v2.toInt ≥ 0 → ((v2.toInt ≤ 3 → wq_183_27 v1 v2 m Q) ∧ (v2.toInt > 3 → wp_128 (v2 - 10) m (fun b19 m20 => ((b19 = true → wq_183_27 v1 v2 m20 Q) ∧ (b19 = false → wp_125 (-5) m20 (fun x21 m22 => Q x21 m22))))))))
theorem zr_183 {d : Nat} (hd : 6 ≤ d) {v1 : Int32} {v2 : Int32} {Q : Int32 → zf_Me → Prop} {m : zf_Me} (h : wp_183 v1 v2 m Q) : zf_M d 183 [.inr (.inr (1, 63)), .inl v1, .inl v2] m (zf_I Q) := by
  obtain ⟨e, rfl⟩ : ∃ z, d = z + 1 := ⟨d - 1, by omega⟩
  unfold wp_183 at h
  refine zf_M_of (Nat.le_of_ble_eq_true rfl) zm_183 (L := [some (.inr (.inr (1, 63))), some (.inl v1), some (.inl v2), none]) rfl ?_
  refine zf_ld (pc' := 1) (v := .inl v2) dX8_by_0 rfl (fun _ _ _ => rfl) rfl rfl rfl ?_
  refine zf_if_lt (tgt := 20) (pc' := 4) dX8_by_1 rfl rfl (fun g => ?_) (fun g => ?_)
  · replace h := h.1 g
    refine zf_ld (pc' := 21) (v := .inr (.inr (1, 63))) dX8_by_20 rfl (fun _ _ _ => rfl) rfl rfl rfl ?_
    refine zf_bi (v := (-5)) (pc' := 23) dX8_by_21 rfl rfl ?_
    refine zf_iv (k := 125) (pc' := 26) (r := []) dX8_by_23 rfl rfl rfl rfl (by decide) rfl rfl rfl (zr_125 (by omega) h) (zf_kI (fun x1 m2 h => ?_))
    exact zf_ri dX8_by_26 rfl h
  · replace h := h.2 g
    refine zf_ld (pc' := 5) (v := .inl v2) dX8_by_4 rfl (fun _ _ _ => rfl) rfl rfl rfl ?_
    refine zf_ic (v := 3) (pc' := 6) dX8_by_5 rfl rfl ?_
    refine zf_icmp_le (tgt := 27) (pc' := 9) dX8_by_6 rfl rfl (fun g => ?_) (fun g => ?_)
    · replace h := h.1 g
      exact zf_lo (zq_183_27 (by omega) h) ⟨rfl, rfl, rfl, trivial⟩
    · replace h := h.2 g
      refine zf_ld (pc' := 10) (v := .inr (.inr (1, 63))) dX8_by_9 rfl (fun _ _ _ => rfl) rfl rfl rfl ?_
      refine zf_ld (pc' := 11) (v := .inl v2) dX8_by_10 rfl (fun _ _ _ => rfl) rfl rfl rfl ?_
      refine zf_bi (v := 10) (pc' := 13) dX8_by_11 rfl rfl ?_
      refine zf_in (pc' := 14) (S' := [.inl (v2 - 10), .inr (.inr (1, 63))]) dX8_by_13 rfl (fun _ _ _ => rfl) ?_
      refine zf_iv (k := 128) (pc' := 17) (r := []) dX8_by_14 rfl rfl rfl rfl (by decide) rfl rfl rfl (zr_128 (by omega) h) (zf_kB (fun b19 m20 h => ?_))
      refine zf_ib_ne (tgt := 27) (pc' := 20) dX8_by_17 rfl rfl (fun g => ?_) (fun g => ?_)
      · replace h := h.1 g
        exact zf_lo (zq_183_27 (by omega) h) ⟨rfl, rfl, rfl, trivial⟩
      · replace h := h.2 g
        refine zf_ld (pc' := 21) (v := .inr (.inr (1, 63))) dX8_by_20 rfl (fun _ _ _ => rfl) rfl rfl rfl ?_
        refine zf_bi (v := (-5)) (pc' := 23) dX8_by_21 rfl rfl ?_
        refine zf_iv (k := 125) (pc' := 26) (r := []) dX8_by_23 rfl rfl rfl rfl (by decide) rfl rfl rfl (zr_125 (by omega) h) (zf_kI (fun x21 m22 h => ?_))
        exact zf_ri dX8_by_26 rfl h
def zt_184 : zx_MT := (8, yX8_best, cX8_best, 7, (some FieldType.int), 1, 0)
theorem zm_184 : zx_m 184 = zt_184 := rfl
theorem dX8_best_r0 : zdcP cX8_best 0 [(.iload_n 1, 1), (.ifCond .lt 8, 3), (.iload_n 1, 1), (.iconst 1, 1), (.if_icmp .le 10, 3), (.aload_n 0, 1), (.bipush (-5), 2), (.invokevirtual 115, 3), (.ireturn, 1), (.iconst (-1), 1), (.istore_n 2, 1), (.iconst 0, 1), (.istore_n 3, 1), (.iconst 0, 1), (.istore 4, 2), (.iconst 0, 1)] := zdcA_ok (by decide +kernel)
theorem dX8_best_0 : decode cX8_best 0 = .ok (.iload_n 1, 1) := dX8_best_r0.1
theorem dX8_best_1 : decode cX8_best 1 = .ok (.ifCond .lt 8, 3) := dX8_best_r0.2.1
theorem dX8_best_4 : decode cX8_best 4 = .ok (.iload_n 1, 1) := dX8_best_r0.2.2.1
theorem dX8_best_5 : decode cX8_best 5 = .ok (.iconst 1, 1) := dX8_best_r0.2.2.2.1
theorem dX8_best_6 : decode cX8_best 6 = .ok (.if_icmp .le 10, 3) := dX8_best_r0.2.2.2.2.1
theorem dX8_best_9 : decode cX8_best 9 = .ok (.aload_n 0, 1) := dX8_best_r0.2.2.2.2.2.1
theorem dX8_best_10 : decode cX8_best 10 = .ok (.bipush (-5), 2) := dX8_best_r0.2.2.2.2.2.2.1
theorem dX8_best_12 : decode cX8_best 12 = .ok (.invokevirtual 115, 3) := dX8_best_r0.2.2.2.2.2.2.2.1
theorem dX8_best_15 : decode cX8_best 15 = .ok (.ireturn, 1) := dX8_best_r0.2.2.2.2.2.2.2.2.1
theorem dX8_best_16 : decode cX8_best 16 = .ok (.iconst (-1), 1) := dX8_best_r0.2.2.2.2.2.2.2.2.2.1
theorem dX8_best_17 : decode cX8_best 17 = .ok (.istore_n 2, 1) := dX8_best_r0.2.2.2.2.2.2.2.2.2.2.1
theorem dX8_best_18 : decode cX8_best 18 = .ok (.iconst 0, 1) := dX8_best_r0.2.2.2.2.2.2.2.2.2.2.2.1
theorem dX8_best_19 : decode cX8_best 19 = .ok (.istore_n 3, 1) := dX8_best_r0.2.2.2.2.2.2.2.2.2.2.2.2.1
theorem dX8_best_20 : decode cX8_best 20 = .ok (.iconst 0, 1) := dX8_best_r0.2.2.2.2.2.2.2.2.2.2.2.2.2.1
theorem dX8_best_21 : decode cX8_best 21 = .ok (.istore 4, 2) := dX8_best_r0.2.2.2.2.2.2.2.2.2.2.2.2.2.2.1
theorem dX8_best_23 : decode cX8_best 23 = .ok (.iconst 0, 1) := dX8_best_r0.2.2.2.2.2.2.2.2.2.2.2.2.2.2.2.1
theorem dX8_best_r24 : zdcP cX8_best 24 [(.istore 5, 2), (.iload 5, 2), (.iconst 4, 1), (.if_icmp .ge 79, 3), (.aload_n 0, 1), (.iload 5, 2), (.invokevirtual 281, 3), (.aload_n 0, 1), (.invokevirtual 284, 3), (.iload_n 1, 1), (.ifCond .ne 10, 3), (.aload_n 0, 1), (.getfield 275, 3), (.goto 7, 3), (.aload_n 0, 1), (.getfield 272, 3)] := zdcA_ok (by decide +kernel)
theorem dX8_best_24 : decode cX8_best 24 = .ok (.istore 5, 2) := dX8_best_r24.1
theorem dX8_best_26 : decode cX8_best 26 = .ok (.iload 5, 2) := dX8_best_r24.2.1
theorem dX8_best_28 : decode cX8_best 28 = .ok (.iconst 4, 1) := dX8_best_r24.2.2.1
theorem dX8_best_29 : decode cX8_best 29 = .ok (.if_icmp .ge 79, 3) := dX8_best_r24.2.2.2.1
theorem dX8_best_32 : decode cX8_best 32 = .ok (.aload_n 0, 1) := dX8_best_r24.2.2.2.2.1
theorem dX8_best_33 : decode cX8_best 33 = .ok (.iload 5, 2) := dX8_best_r24.2.2.2.2.2.1
theorem dX8_best_35 : decode cX8_best 35 = .ok (.invokevirtual 281, 3) := dX8_best_r24.2.2.2.2.2.2.1
theorem dX8_best_38 : decode cX8_best 38 = .ok (.aload_n 0, 1) := dX8_best_r24.2.2.2.2.2.2.2.1
theorem dX8_best_39 : decode cX8_best 39 = .ok (.invokevirtual 284, 3) := dX8_best_r24.2.2.2.2.2.2.2.2.1
theorem dX8_best_42 : decode cX8_best 42 = .ok (.iload_n 1, 1) := dX8_best_r24.2.2.2.2.2.2.2.2.2.1
theorem dX8_best_43 : decode cX8_best 43 = .ok (.ifCond .ne 10, 3) := dX8_best_r24.2.2.2.2.2.2.2.2.2.2.1
theorem dX8_best_46 : decode cX8_best 46 = .ok (.aload_n 0, 1) := dX8_best_r24.2.2.2.2.2.2.2.2.2.2.2.1
theorem dX8_best_47 : decode cX8_best 47 = .ok (.getfield 275, 3) := dX8_best_r24.2.2.2.2.2.2.2.2.2.2.2.2.1
theorem dX8_best_50 : decode cX8_best 50 = .ok (.goto 7, 3) := dX8_best_r24.2.2.2.2.2.2.2.2.2.2.2.2.2.1
theorem dX8_best_53 : decode cX8_best 53 = .ok (.aload_n 0, 1) := dX8_best_r24.2.2.2.2.2.2.2.2.2.2.2.2.2.2.1
theorem dX8_best_54 : decode cX8_best 54 = .ok (.getfield 272, 3) := dX8_best_r24.2.2.2.2.2.2.2.2.2.2.2.2.2.2.2.1
theorem dX8_best_r57 : zdcP cX8_best 57 [(.istore 6, 2), (.iload_n 2, 1), (.iconst (-1), 1), (.if_icmp .eq 29, 3), (.aload_n 0, 1), (.getfield 269, 3), (.iload_n 3, 1), (.if_icmp .lt 33, 3), (.aload_n 0, 1), (.getfield 269, 3), (.iload_n 3, 1), (.if_icmp .ne 13, 3), (.iload 6, 2), (.iload 4, 2), (.if_icmp .lt 6, 3), (.goto 15, 3)] := zdcA_ok (by decide +kernel)
theorem dX8_best_57 : decode cX8_best 57 = .ok (.istore 6, 2) := dX8_best_r57.1
theorem dX8_best_59 : decode cX8_best 59 = .ok (.iload_n 2, 1) := dX8_best_r57.2.1
theorem dX8_best_60 : decode cX8_best 60 = .ok (.iconst (-1), 1) := dX8_best_r57.2.2.1
theorem dX8_best_61 : decode cX8_best 61 = .ok (.if_icmp .eq 29, 3) := dX8_best_r57.2.2.2.1
theorem dX8_best_64 : decode cX8_best 64 = .ok (.aload_n 0, 1) := dX8_best_r57.2.2.2.2.1
theorem dX8_best_65 : decode cX8_best 65 = .ok (.getfield 269, 3) := dX8_best_r57.2.2.2.2.2.1
theorem dX8_best_68 : decode cX8_best 68 = .ok (.iload_n 3, 1) := dX8_best_r57.2.2.2.2.2.2.1
theorem dX8_best_69 : decode cX8_best 69 = .ok (.if_icmp .lt 33, 3) := dX8_best_r57.2.2.2.2.2.2.2.1
theorem dX8_best_72 : decode cX8_best 72 = .ok (.aload_n 0, 1) := dX8_best_r57.2.2.2.2.2.2.2.2.1
theorem dX8_best_73 : decode cX8_best 73 = .ok (.getfield 269, 3) := dX8_best_r57.2.2.2.2.2.2.2.2.2.1
theorem dX8_best_76 : decode cX8_best 76 = .ok (.iload_n 3, 1) := dX8_best_r57.2.2.2.2.2.2.2.2.2.2.1
theorem dX8_best_77 : decode cX8_best 77 = .ok (.if_icmp .ne 13, 3) := dX8_best_r57.2.2.2.2.2.2.2.2.2.2.2.1
theorem dX8_best_80 : decode cX8_best 80 = .ok (.iload 6, 2) := dX8_best_r57.2.2.2.2.2.2.2.2.2.2.2.2.1
theorem dX8_best_82 : decode cX8_best 82 = .ok (.iload 4, 2) := dX8_best_r57.2.2.2.2.2.2.2.2.2.2.2.2.2.1
theorem dX8_best_84 : decode cX8_best 84 = .ok (.if_icmp .lt 6, 3) := dX8_best_r57.2.2.2.2.2.2.2.2.2.2.2.2.2.2.1
theorem dX8_best_87 : decode cX8_best 87 = .ok (.goto 15, 3) := dX8_best_r57.2.2.2.2.2.2.2.2.2.2.2.2.2.2.2.1
theorem dX8_best_r90 : zdcP cX8_best 90 [(.iload 5, 2), (.istore_n 2, 1), (.aload_n 0, 1), (.getfield 269, 3), (.istore_n 3, 1), (.iload 6, 2), (.istore 4, 2), (.iinc 5 1, 3), (.goto (-79), 3), (.iload_n 2, 1), (.ireturn, 1)] := zdcA_ok (by decide +kernel)
theorem dX8_best_90 : decode cX8_best 90 = .ok (.iload 5, 2) := dX8_best_r90.1
theorem dX8_best_92 : decode cX8_best 92 = .ok (.istore_n 2, 1) := dX8_best_r90.2.1
theorem dX8_best_93 : decode cX8_best 93 = .ok (.aload_n 0, 1) := dX8_best_r90.2.2.1
theorem dX8_best_94 : decode cX8_best 94 = .ok (.getfield 269, 3) := dX8_best_r90.2.2.2.1
theorem dX8_best_97 : decode cX8_best 97 = .ok (.istore_n 3, 1) := dX8_best_r90.2.2.2.2.1
theorem dX8_best_98 : decode cX8_best 98 = .ok (.iload 6, 2) := dX8_best_r90.2.2.2.2.2.1
theorem dX8_best_100 : decode cX8_best 100 = .ok (.istore 4, 2) := dX8_best_r90.2.2.2.2.2.2.1
theorem dX8_best_102 : decode cX8_best 102 = .ok (.iinc 5 1, 3) := dX8_best_r90.2.2.2.2.2.2.2.1
theorem dX8_best_105 : decode cX8_best 105 = .ok (.goto (-79), 3) := dX8_best_r90.2.2.2.2.2.2.2.2.1
theorem dX8_best_108 : decode cX8_best 108 = .ok (.iload_n 2, 1) := dX8_best_r90.2.2.2.2.2.2.2.2.2.1
theorem dX8_best_109 : decode cX8_best 109 = .ok (.ireturn, 1) := dX8_best_r90.2.2.2.2.2.2.2.2.2.2.1
def wq_184_90 (v1 : Int32) (F26 : Int32 → Int32 → Int32 → Int32 → zf_Me → Prop) (v5 : Int32) (v6 : Int32) (m : zf_Me) (Q : Int32 → zf_Me → Prop) : Prop := F26 v5 (m.1 63 47) v6 (v5 + 1) m
theorem zq_184_90 {d : Nat} (hd : 6 ≤ d) {v1 : Int32} {F26 : Int32 → Int32 → Int32 → Int32 → zf_Me → Prop} {Q : Int32 → zf_Me → Prop} (hF26 : ∀ (v2 : Int32) (v3 : Int32) (v4 : Int32) (v5 : Int32) (m : zf_Me), F26 v2 v3 v4 v5 m → zf_W none 0 0 d zt_184 26 [some (.inr (.inr (1, 63))), some (.inl v1), some (.inl v2), some (.inl v3), some (.inl v4), some (.inl v5), none] [] m (zf_I Q)) {v5 : Int32} {v6 : Int32} {m : zf_Me} (h : wq_184_90 v1 F26 v5 v6 m Q) : zf_W none 0 0 d zt_184 90 [some (.inr (.inr (1, 63))), some (.inl v1), none, none, none, some (.inl v5), some (.inl v6)] [] m (zf_I Q) := by
  unfold wq_184_90 at h
  refine zf_ld (pc' := 92) (v := .inl v5) dX8_best_90 rfl (fun _ _ _ => rfl) rfl rfl rfl ?_
  refine zf_st (pc' := 93) (L2 := [some (.inr (.inr (1, 63))), some (.inl v1), some (.inl v5), none, none, some (.inl v5), some (.inl v6)]) dX8_best_92 rfl (fun _ _ _ => rfl) rfl rfl rfl rfl rfl rfl ?_
  refine zf_ld (pc' := 94) (v := .inr (.inr (1, 63))) dX8_best_93 rfl (fun _ _ _ => rfl) rfl rfl rfl ?_
  refine zf_gfi (pc' := 97) dX8_best_94 rfl rfl (by decide) rfl rfl ?_
  refine zf_st (pc' := 98) (L2 := [some (.inr (.inr (1, 63))), some (.inl v1), some (.inl v5), some (.inl (m.1 63 47)), none, some (.inl v5), some (.inl v6)]) dX8_best_97 rfl (fun _ _ _ => rfl) rfl rfl rfl rfl rfl rfl ?_
  refine zf_ld (pc' := 100) (v := .inl v6) dX8_best_98 rfl (fun _ _ _ => rfl) rfl rfl rfl ?_
  refine zf_st (pc' := 102) (L2 := [some (.inr (.inr (1, 63))), some (.inl v1), some (.inl v5), some (.inl (m.1 63 47)), some (.inl v6), some (.inl v5), some (.inl v6)]) dX8_best_100 rfl (fun _ _ _ => rfl) rfl rfl rfl rfl rfl rfl ?_
  refine zf_ii (y := (v5 + 1)) (L2 := [some (.inr (.inr (1, 63))), some (.inl v1), some (.inl v5), some (.inl (m.1 63 47)), some (.inl v6), some (.inl (v5 + 1)), some (.inl v6)]) (pc' := 105) dX8_best_102 rfl rfl rfl rfl rfl ?_
  refine zf_goto (tgt := 26) dX8_best_105 rfl ?_
  exact zf_lo (hF26 _ _ _ _ _ h) ⟨rfl, rfl, rfl, rfl, rfl, rfl, trivial⟩
def wq_184_57 (v1 : Int32) (F26 : Int32 → Int32 → Int32 → Int32 → zf_Me → Prop) (v2 : Int32) (v3 : Int32) (v4 : Int32) (v5 : Int32) (u0 : Int32) (m : zf_Me) (Q : Int32 → zf_Me → Prop) : Prop := ((v2.toInt = (-1) → wq_184_90 v1 F26 v5 u0 m Q) ∧ (¬ v2.toInt = (-1) → ((((m.1 63 47)).toInt < v3.toInt → F26 v2 v3 v4 (v5 + 1) m) ∧ (((m.1 63 47)).toInt ≥ v3.toInt → ((¬ ((m.1 63 47)).toInt = v3.toInt → wq_184_90 v1 F26 v5 u0 m Q) ∧ (((m.1 63 47)).toInt = v3.toInt → ((u0.toInt < v4.toInt → wq_184_90 v1 F26 v5 u0 m Q) ∧ (u0.toInt ≥ v4.toInt → F26 v2 v3 v4 (v5 + 1) m))))))))
theorem zq_184_57 {d : Nat} (hd : 6 ≤ d) {v1 : Int32} {F26 : Int32 → Int32 → Int32 → Int32 → zf_Me → Prop} {Q : Int32 → zf_Me → Prop} (hF26 : ∀ (v2 : Int32) (v3 : Int32) (v4 : Int32) (v5 : Int32) (m : zf_Me), F26 v2 v3 v4 v5 m → zf_W none 0 0 d zt_184 26 [some (.inr (.inr (1, 63))), some (.inl v1), some (.inl v2), some (.inl v3), some (.inl v4), some (.inl v5), none] [] m (zf_I Q)) {v2 : Int32} {v3 : Int32} {v4 : Int32} {v5 : Int32} {u0 : Int32} {m : zf_Me} (h : wq_184_57 v1 F26 v2 v3 v4 v5 u0 m Q) : zf_W none 0 0 d zt_184 57 [some (.inr (.inr (1, 63))), some (.inl v1), some (.inl v2), some (.inl v3), some (.inl v4), some (.inl v5), none] [.inl u0] m (zf_I Q) := by
  unfold wq_184_57 at h
  refine zf_st (pc' := 59) (L2 := [some (.inr (.inr (1, 63))), some (.inl v1), some (.inl v2), some (.inl v3), some (.inl v4), some (.inl v5), some (.inl u0)]) dX8_best_57 rfl (fun _ _ _ => rfl) rfl rfl rfl rfl rfl rfl ?_
  refine zf_ld (pc' := 60) (v := .inl v2) dX8_best_59 rfl (fun _ _ _ => rfl) rfl rfl rfl ?_
  refine zf_ic (v := (-1)) (pc' := 61) dX8_best_60 rfl rfl ?_
  refine zf_icmp_eq (tgt := 90) (pc' := 64) dX8_best_61 rfl rfl (fun g => ?_) (fun g => ?_)
  · replace h := h.1 g
    exact zf_lo (zq_184_90 (by omega) hF26 h) ⟨rfl, rfl, rfl, rfl, trivial⟩
  · replace h := h.2 g
    refine zf_ld (pc' := 65) (v := .inr (.inr (1, 63))) dX8_best_64 rfl (fun _ _ _ => rfl) rfl rfl rfl ?_
    refine zf_gfi (pc' := 68) dX8_best_65 rfl rfl (by decide) rfl rfl ?_
    refine zf_ld (pc' := 69) (v := .inl v3) dX8_best_68 rfl (fun _ _ _ => rfl) rfl rfl rfl ?_
    refine zf_icmp_lt (tgt := 102) (pc' := 72) dX8_best_69 rfl rfl (fun g => ?_) (fun g => ?_)
    · replace h := h.1 g
      refine zf_ii (y := (v5 + 1)) (L2 := [some (.inr (.inr (1, 63))), some (.inl v1), some (.inl v2), some (.inl v3), some (.inl v4), some (.inl (v5 + 1)), some (.inl u0)]) (pc' := 105) dX8_best_102 rfl rfl rfl rfl rfl ?_
      refine zf_goto (tgt := 26) dX8_best_105 rfl ?_
      exact zf_lo (hF26 _ _ _ _ _ h) ⟨rfl, rfl, rfl, rfl, rfl, rfl, trivial⟩
    · replace h := h.2 g
      refine zf_ld (pc' := 73) (v := .inr (.inr (1, 63))) dX8_best_72 rfl (fun _ _ _ => rfl) rfl rfl rfl ?_
      refine zf_gfi (pc' := 76) dX8_best_73 rfl rfl (by decide) rfl rfl ?_
      refine zf_ld (pc' := 77) (v := .inl v3) dX8_best_76 rfl (fun _ _ _ => rfl) rfl rfl rfl ?_
      refine zf_icmp_ne (tgt := 90) (pc' := 80) dX8_best_77 rfl rfl (fun g => ?_) (fun g => ?_)
      · replace h := h.1 g
        exact zf_lo (zq_184_90 (by omega) hF26 h) ⟨rfl, rfl, rfl, rfl, trivial⟩
      · replace h := h.2 g
        refine zf_ld (pc' := 82) (v := .inl u0) dX8_best_80 rfl (fun _ _ _ => rfl) rfl rfl rfl ?_
        refine zf_ld (pc' := 84) (v := .inl v4) dX8_best_82 rfl (fun _ _ _ => rfl) rfl rfl rfl ?_
        refine zf_icmp_lt (tgt := 90) (pc' := 87) dX8_best_84 rfl rfl (fun g => ?_) (fun g => ?_)
        · replace h := h.1 g
          exact zf_lo (zq_184_90 (by omega) hF26 h) ⟨rfl, rfl, rfl, rfl, trivial⟩
        · replace h := h.2 g
          refine zf_goto (tgt := 102) dX8_best_87 rfl ?_
          refine zf_ii (y := (v5 + 1)) (L2 := [some (.inr (.inr (1, 63))), some (.inl v1), some (.inl v2), some (.inl v3), some (.inl v4), some (.inl (v5 + 1)), some (.inl u0)]) (pc' := 105) dX8_best_102 rfl rfl rfl rfl rfl ?_
          refine zf_goto (tgt := 26) dX8_best_105 rfl ?_
          exact zf_lo (hF26 _ _ _ _ _ h) ⟨rfl, rfl, rfl, rfl, rfl, rfl, trivial⟩
def wq_184_26 (v1 : Int32) (Q : Int32 → zf_Me → Prop) : Nat → Int32 → Int32 → Int32 → Int32 → zf_Me → Prop
  | 0, _, _, _, _, _ => False
  | n + 1, v2, v3, v4, v5, m => ((v5.toInt ≥ 4 → Q v2 m) ∧ (v5.toInt < 4 → wp_181 v5 m (fun m4 => wp_182 m4 (fun m6 => ((¬ v1.toInt = 0 → wq_184_57 v1 (wq_184_26 v1 Q n) v2 v3 v4 v5 (m6.1 63 48) m6 Q) ∧ (v1.toInt = 0 → wq_184_57 v1 (wq_184_26 v1 Q n) v2 v3 v4 v5 (m6.1 63 49) m6 Q))))))
theorem zq_184_26 {d : Nat} (hd : 6 ≤ d) {v1 : Int32} {Q : Int32 → zf_Me → Prop} : ∀ (n : Nat) (v2 : Int32) (v3 : Int32) (v4 : Int32) (v5 : Int32) (m : zf_Me), wq_184_26 v1 Q n v2 v3 v4 v5 m → zf_W none 0 0 d zt_184 26 [some (.inr (.inr (1, 63))), some (.inl v1), some (.inl v2), some (.inl v3), some (.inl v4), some (.inl v5), none] [] m (zf_I Q) := by
  obtain ⟨e, rfl⟩ : ∃ z, d = z + 1 := ⟨d - 1, by omega⟩
  intro n
  induction n with
  | zero =>
    intro v2 v3 v4 v5 m h
    exact h.elim
  | succ n ih =>
    intro v2 v3 v4 v5 m h
    unfold wq_184_26 at h
    refine zf_ld (pc' := 28) (v := .inl v5) dX8_best_26 rfl (fun _ _ _ => rfl) rfl rfl rfl ?_
    refine zf_ic (v := 4) (pc' := 29) dX8_best_28 rfl rfl ?_
    refine zf_icmp_ge (tgt := 108) (pc' := 32) dX8_best_29 rfl rfl (fun g => ?_) (fun g => ?_)
    · replace h := h.1 g
      refine zf_ld (pc' := 109) (v := .inl v2) dX8_best_108 rfl (fun _ _ _ => rfl) rfl rfl rfl ?_
      exact zf_ri dX8_best_109 rfl h
    · replace h := h.2 g
      refine zf_ld (pc' := 33) (v := .inr (.inr (1, 63))) dX8_best_32 rfl (fun _ _ _ => rfl) rfl rfl rfl ?_
      refine zf_ld (pc' := 35) (v := .inl v5) dX8_best_33 rfl (fun _ _ _ => rfl) rfl rfl rfl ?_
      refine zf_iv (k := 181) (pc' := 38) (r := []) dX8_best_35 rfl rfl rfl rfl (by decide) rfl rfl rfl (zr_181 (by omega) h) (zf_kO (fun m4 h => ?_))
      refine zf_ld (pc' := 39) (v := .inr (.inr (1, 63))) dX8_best_38 rfl (fun _ _ _ => rfl) rfl rfl rfl ?_
      refine zf_iv (k := 182) (pc' := 42) (r := []) dX8_best_39 rfl rfl rfl rfl (by decide) rfl rfl rfl (zr_182 (by omega) h) (zf_kO (fun m6 h => ?_))
      refine zf_ld (pc' := 43) (v := .inl v1) dX8_best_42 rfl (fun _ _ _ => rfl) rfl rfl rfl ?_
      refine zf_if_ne (tgt := 53) (pc' := 46) dX8_best_43 rfl rfl (fun g => ?_) (fun g => ?_)
      · replace h := h.1 g
        refine zf_ld (pc' := 54) (v := .inr (.inr (1, 63))) dX8_best_53 rfl (fun _ _ _ => rfl) rfl rfl rfl ?_
        refine zf_gfi (pc' := 57) dX8_best_54 rfl rfl (by decide) rfl rfl ?_
        exact zf_lo (zq_184_57 (by omega) ih h) ⟨rfl, rfl, rfl, rfl, rfl, rfl, trivial⟩
      · replace h := h.2 g
        refine zf_ld (pc' := 47) (v := .inr (.inr (1, 63))) dX8_best_46 rfl (fun _ _ _ => rfl) rfl rfl rfl ?_
        refine zf_gfi (pc' := 50) dX8_best_47 rfl rfl (by decide) rfl rfl ?_
        refine zf_goto (tgt := 57) dX8_best_50 rfl ?_
        exact zf_lo (zq_184_57 (by omega) ih h) ⟨rfl, rfl, rfl, rfl, rfl, rfl, trivial⟩
def wp_184 (v1 : Int32) (m : zf_Me) (Q : Int32 → zf_Me → Prop) : Prop := ((v1.toInt < 0 → wp_125 (-5) m (fun x1 m2 => Q x1 m2)) ∧ (v1.toInt ≥ 0 → ((v1.toInt ≤ 1 → (∃ n26, wq_184_26 v1 Q n26 (-1) 0 0 0 m)) ∧ (v1.toInt > 1 → wp_125 (-5) m (fun x7 m8 => Q x7 m8)))))
theorem zr_184 {d : Nat} (hd : 6 ≤ d) {v1 : Int32} {Q : Int32 → zf_Me → Prop} {m : zf_Me} (h : wp_184 v1 m Q) : zf_M d 184 [.inr (.inr (1, 63)), .inl v1] m (zf_I Q) := by
  obtain ⟨e, rfl⟩ : ∃ z, d = z + 1 := ⟨d - 1, by omega⟩
  unfold wp_184 at h
  refine zf_M_of (Nat.le_of_ble_eq_true rfl) zm_184 (L := [some (.inr (.inr (1, 63))), some (.inl v1), none, none, none, none, none]) rfl ?_
  refine zf_ld (pc' := 1) (v := .inl v1) dX8_best_0 rfl (fun _ _ _ => rfl) rfl rfl rfl ?_
  refine zf_if_lt (tgt := 9) (pc' := 4) dX8_best_1 rfl rfl (fun g => ?_) (fun g => ?_)
  · replace h := h.1 g
    refine zf_ld (pc' := 10) (v := .inr (.inr (1, 63))) dX8_best_9 rfl (fun _ _ _ => rfl) rfl rfl rfl ?_
    refine zf_bi (v := (-5)) (pc' := 12) dX8_best_10 rfl rfl ?_
    refine zf_iv (k := 125) (pc' := 15) (r := []) dX8_best_12 rfl rfl rfl rfl (by decide) rfl rfl rfl (zr_125 (by omega) h) (zf_kI (fun x1 m2 h => ?_))
    exact zf_ri dX8_best_15 rfl h
  · replace h := h.2 g
    refine zf_ld (pc' := 5) (v := .inl v1) dX8_best_4 rfl (fun _ _ _ => rfl) rfl rfl rfl ?_
    refine zf_ic (v := 1) (pc' := 6) dX8_best_5 rfl rfl ?_
    refine zf_icmp_le (tgt := 16) (pc' := 9) dX8_best_6 rfl rfl (fun g => ?_) (fun g => ?_)
    · replace h := h.1 g
      refine zf_ic (v := (-1)) (pc' := 17) dX8_best_16 rfl rfl ?_
      refine zf_st (pc' := 18) (L2 := [some (.inr (.inr (1, 63))), some (.inl v1), some (.inl (-1)), none, none, none, none]) dX8_best_17 rfl (fun _ _ _ => rfl) rfl rfl rfl rfl rfl rfl ?_
      refine zf_ic (v := 0) (pc' := 19) dX8_best_18 rfl rfl ?_
      refine zf_st (pc' := 20) (L2 := [some (.inr (.inr (1, 63))), some (.inl v1), some (.inl (-1)), some (.inl 0), none, none, none]) dX8_best_19 rfl (fun _ _ _ => rfl) rfl rfl rfl rfl rfl rfl ?_
      refine zf_ic (v := 0) (pc' := 21) dX8_best_20 rfl rfl ?_
      refine zf_st (pc' := 23) (L2 := [some (.inr (.inr (1, 63))), some (.inl v1), some (.inl (-1)), some (.inl 0), some (.inl 0), none, none]) dX8_best_21 rfl (fun _ _ _ => rfl) rfl rfl rfl rfl rfl rfl ?_
      refine zf_ic (v := 0) (pc' := 24) dX8_best_23 rfl rfl ?_
      refine zf_st (pc' := 26) (L2 := [some (.inr (.inr (1, 63))), some (.inl v1), some (.inl (-1)), some (.inl 0), some (.inl 0), some (.inl 0), none]) dX8_best_24 rfl (fun _ _ _ => rfl) rfl rfl rfl rfl rfl rfl ?_
      obtain ⟨n26, h⟩ := h
      exact zf_lo (zq_184_26 (by omega) n26 _ _ _ _ _ h) ⟨rfl, rfl, rfl, rfl, rfl, rfl, trivial⟩
    · replace h := h.2 g
      refine zf_ld (pc' := 10) (v := .inr (.inr (1, 63))) dX8_best_9 rfl (fun _ _ _ => rfl) rfl rfl rfl ?_
      refine zf_bi (v := (-5)) (pc' := 12) dX8_best_10 rfl rfl ?_
      refine zf_iv (k := 125) (pc' := 15) (r := []) dX8_best_12 rfl rfl rfl rfl (by decide) rfl rfl rfl (zr_125 (by omega) h) (zf_kI (fun x7 m8 h => ?_))
      exact zf_ri dX8_best_15 rfl h
end
