theorem d_X5_copy_0 : decode cX5_copy 0 = .ok (.iload_n 1, 1) := by decide +kernel
theorem d_X5_copy_1 : decode cX5_copy 1 = .ok (.invokestatic 199, 3) := by decide +kernel
theorem d_X5_copy_4 : decode cX5_copy 4 = .ok (.ifCond .eq 10, 3) := by decide +kernel
theorem d_X5_copy_7 : decode cX5_copy 7 = .ok (.iload_n 3, 1) := by decide +kernel
theorem d_X5_copy_8 : decode cX5_copy 8 = .ok (.invokestatic 199, 3) := by decide +kernel
theorem d_X5_copy_11 : decode cX5_copy 11 = .ok (.ifCond .ne 10, 3) := by decide +kernel
theorem d_X5_copy_14 : decode cX5_copy 14 = .ok (.aload_n 0, 1) := by decide +kernel
theorem d_X5_copy_15 : decode cX5_copy 15 = .ok (.ldc 60, 2) := by decide +kernel
theorem d_X5_copy_17 : decode cX5_copy 17 = .ok (.invokevirtual 66, 3) := by decide +kernel
theorem d_X5_copy_20 : decode cX5_copy 20 = .ok (.ireturn, 1) := by decide +kernel
theorem d_X5_copy_21 : decode cX5_copy 21 = .ok (.aload_n 0, 1) := by decide +kernel
theorem d_X5_copy_22 : decode cX5_copy 22 = .ok (.getfield 48, 3) := by decide +kernel
theorem d_X5_copy_25 : decode cX5_copy 25 = .ok (.iload_n 1, 1) := by decide +kernel
theorem d_X5_copy_26 : decode cX5_copy 26 = .ok (.iaload, 1) := by decide +kernel
theorem d_X5_copy_27 : decode cX5_copy 27 = .ok (.ifCond .eq 12, 3) := by decide +kernel
theorem d_X5_copy_30 : decode cX5_copy 30 = .ok (.aload_n 0, 1) := by decide +kernel
theorem d_X5_copy_31 : decode cX5_copy 31 = .ok (.getfield 48, 3) := by decide +kernel
theorem d_X5_copy_34 : decode cX5_copy 34 = .ok (.iload_n 3, 1) := by decide +kernel
theorem d_X5_copy_35 : decode cX5_copy 35 = .ok (.iaload, 1) := by decide +kernel
theorem d_X5_copy_36 : decode cX5_copy 36 = .ok (.ifCond .ne 10, 3) := by decide +kernel
theorem d_X5_copy_39 : decode cX5_copy 39 = .ok (.aload_n 0, 1) := by decide +kernel
theorem d_X5_copy_40 : decode cX5_copy 40 = .ok (.ldc 202, 2) := by decide +kernel
theorem d_X5_copy_42 : decode cX5_copy 42 = .ok (.invokevirtual 66, 3) := by decide +kernel
theorem d_X5_copy_45 : decode cX5_copy 45 = .ok (.ireturn, 1) := by decide +kernel
theorem d_X5_copy_46 : decode cX5_copy 46 = .ok (.aload_n 0, 1) := by decide +kernel
theorem d_X5_copy_47 : decode cX5_copy 47 = .ok (.getfield 48, 3) := by decide +kernel
theorem d_X5_copy_50 : decode cX5_copy 50 = .ok (.iload_n 1, 1) := by decide +kernel
theorem d_X5_copy_51 : decode cX5_copy 51 = .ok (.iaload, 1) := by decide +kernel
theorem d_X5_copy_52 : decode cX5_copy 52 = .ok (.aload_n 0, 1) := by decide +kernel
theorem d_X5_copy_53 : decode cX5_copy 53 = .ok (.getfield 48, 3) := by decide +kernel
theorem d_X5_copy_56 : decode cX5_copy 56 = .ok (.iload_n 3, 1) := by decide +kernel
theorem d_X5_copy_57 : decode cX5_copy 57 = .ok (.iaload, 1) := by decide +kernel
theorem d_X5_copy_58 : decode cX5_copy 58 = .ok (.if_icmp .eq 11, 3) := by decide +kernel
theorem d_X5_copy_61 : decode cX5_copy 61 = .ok (.aload_n 0, 1) := by decide +kernel
theorem d_X5_copy_62 : decode cX5_copy 62 = .ok (.ldc_w 309, 3) := by decide +kernel
theorem d_X5_copy_65 : decode cX5_copy 65 = .ok (.invokevirtual 66, 3) := by decide +kernel
theorem d_X5_copy_68 : decode cX5_copy 68 = .ok (.ireturn, 1) := by decide +kernel
theorem d_X5_copy_69 : decode cX5_copy 69 = .ok (.iload_n 2, 1) := by decide +kernel
theorem d_X5_copy_70 : decode cX5_copy 70 = .ok (.ifCond .lt 48, 3) := by decide +kernel
theorem d_X5_copy_73 : decode cX5_copy 73 = .ok (.iload 4, 2) := by decide +kernel
theorem d_X5_copy_75 : decode cX5_copy 75 = .ok (.ifCond .lt 43, 3) := by decide +kernel
theorem d_X5_copy_78 : decode cX5_copy 78 = .ok (.iload 5, 2) := by decide +kernel
theorem d_X5_copy_80 : decode cX5_copy 80 = .ok (.ifCond .lt 38, 3) := by decide +kernel
theorem d_X5_copy_83 : decode cX5_copy 83 = .ok (.iload_n 2, 1) := by decide +kernel
theorem d_X5_copy_84 : decode cX5_copy 84 = .ok (.i2l, 1) := by decide +kernel
theorem d_X5_copy_85 : decode cX5_copy 85 = .ok (.iload 5, 2) := by decide +kernel
theorem d_X5_copy_87 : decode cX5_copy 87 = .ok (.i2l, 1) := by decide +kernel
theorem d_X5_copy_88 : decode cX5_copy 88 = .ok (.ladd, 1) := by decide +kernel
theorem d_X5_copy_89 : decode cX5_copy 89 = .ok (.aload_n 0, 1) := by decide +kernel
theorem d_X5_copy_90 : decode cX5_copy 90 = .ok (.getfield 51, 3) := by decide +kernel
theorem d_X5_copy_93 : decode cX5_copy 93 = .ok (.iload_n 1, 1) := by decide +kernel
theorem d_X5_copy_94 : decode cX5_copy 94 = .ok (.iaload, 1) := by decide +kernel
theorem d_X5_copy_95 : decode cX5_copy 95 = .ok (.i2l, 1) := by decide +kernel
theorem d_X5_copy_96 : decode cX5_copy 96 = .ok (.lcmp, 1) := by decide +kernel
theorem d_X5_copy_97 : decode cX5_copy 97 = .ok (.ifCond .gt 21, 3) := by decide +kernel
theorem d_X5_copy_100 : decode cX5_copy 100 = .ok (.iload 4, 2) := by decide +kernel
theorem d_X5_copy_102 : decode cX5_copy 102 = .ok (.i2l, 1) := by decide +kernel
theorem d_X5_copy_103 : decode cX5_copy 103 = .ok (.iload 5, 2) := by decide +kernel
theorem d_X5_copy_105 : decode cX5_copy 105 = .ok (.i2l, 1) := by decide +kernel
theorem d_X5_copy_106 : decode cX5_copy 106 = .ok (.ladd, 1) := by decide +kernel
theorem d_X5_copy_107 : decode cX5_copy 107 = .ok (.aload_n 0, 1) := by decide +kernel
theorem d_X5_copy_108 : decode cX5_copy 108 = .ok (.getfield 51, 3) := by decide +kernel
theorem d_X5_copy_111 : decode cX5_copy 111 = .ok (.iload_n 3, 1) := by decide +kernel
theorem d_X5_copy_112 : decode cX5_copy 112 = .ok (.iaload, 1) := by decide +kernel
theorem d_X5_copy_113 : decode cX5_copy 113 = .ok (.i2l, 1) := by decide +kernel
theorem d_X5_copy_114 : decode cX5_copy 114 = .ok (.lcmp, 1) := by decide +kernel
theorem d_X5_copy_115 : decode cX5_copy 115 = .ok (.ifCond .le 10, 3) := by decide +kernel
theorem d_X5_copy_118 : decode cX5_copy 118 = .ok (.aload_n 0, 1) := by decide +kernel
theorem d_X5_copy_119 : decode cX5_copy 119 = .ok (.ldc 60, 2) := by decide +kernel
theorem d_X5_copy_121 : decode cX5_copy 121 = .ok (.invokevirtual 66, 3) := by decide +kernel
theorem d_X5_copy_124 : decode cX5_copy 124 = .ok (.ireturn, 1) := by decide +kernel
theorem d_X5_copy_125 : decode cX5_copy 125 = .ok (.iconst 0, 1) := by decide +kernel
theorem d_X5_copy_126 : decode cX5_copy 126 = .ok (.istore 6, 2) := by decide +kernel
theorem d_X5_copy_128 : decode cX5_copy 128 = .ok (.iload 6, 2) := by decide +kernel
theorem d_X5_copy_130 : decode cX5_copy 130 = .ok (.iload 5, 2) := by decide +kernel
theorem d_X5_copy_132 : decode cX5_copy 132 = .ok (.if_icmp .ge 30, 3) := by decide +kernel
theorem d_X5_copy_135 : decode cX5_copy 135 = .ok (.aload_n 0, 1) := by decide +kernel
theorem d_X5_copy_136 : decode cX5_copy 136 = .ok (.getfield 57, 3) := by decide +kernel
theorem d_X5_copy_139 : decode cX5_copy 139 = .ok (.iload 6, 2) := by decide +kernel
theorem d_X5_copy_141 : decode cX5_copy 141 = .ok (.aload_n 0, 1) := by decide +kernel
theorem d_X5_copy_142 : decode cX5_copy 142 = .ok (.getfield 54, 3) := by decide +kernel
theorem d_X5_copy_145 : decode cX5_copy 145 = .ok (.bipush 40, 2) := by decide +kernel
theorem d_X5_copy_147 : decode cX5_copy 147 = .ok (.iload_n 1, 1) := by decide +kernel
theorem d_X5_copy_148 : decode cX5_copy 148 = .ok (.imul, 1) := by decide +kernel
theorem d_X5_copy_149 : decode cX5_copy 149 = .ok (.iload_n 2, 1) := by decide +kernel
theorem d_X5_copy_150 : decode cX5_copy 150 = .ok (.iadd, 1) := by decide +kernel
theorem d_X5_copy_151 : decode cX5_copy 151 = .ok (.iload 6, 2) := by decide +kernel
theorem d_X5_copy_153 : decode cX5_copy 153 = .ok (.iadd, 1) := by decide +kernel
theorem d_X5_copy_154 : decode cX5_copy 154 = .ok (.iaload, 1) := by decide +kernel
theorem d_X5_copy_155 : decode cX5_copy 155 = .ok (.iastore, 1) := by decide +kernel
theorem d_X5_copy_156 : decode cX5_copy 156 = .ok (.iinc 6 1, 3) := by decide +kernel
theorem d_X5_copy_159 : decode cX5_copy 159 = .ok (.goto (-31), 3) := by decide +kernel
theorem d_X5_copy_162 : decode cX5_copy 162 = .ok (.iconst 0, 1) := by decide +kernel
theorem d_X5_copy_163 : decode cX5_copy 163 = .ok (.istore 6, 2) := by decide +kernel
theorem d_X5_copy_165 : decode cX5_copy 165 = .ok (.iload 6, 2) := by decide +kernel
theorem d_X5_copy_167 : decode cX5_copy 167 = .ok (.iload 5, 2) := by decide +kernel
theorem d_X5_copy_169 : decode cX5_copy 169 = .ok (.if_icmp .ge 31, 3) := by decide +kernel
theorem d_X5_copy_172 : decode cX5_copy 172 = .ok (.aload_n 0, 1) := by decide +kernel
theorem d_X5_copy_173 : decode cX5_copy 173 = .ok (.getfield 54, 3) := by decide +kernel
theorem d_X5_copy_176 : decode cX5_copy 176 = .ok (.bipush 40, 2) := by decide +kernel
theorem d_X5_copy_178 : decode cX5_copy 178 = .ok (.iload_n 3, 1) := by decide +kernel
theorem d_X5_copy_179 : decode cX5_copy 179 = .ok (.imul, 1) := by decide +kernel
theorem d_X5_copy_180 : decode cX5_copy 180 = .ok (.iload 4, 2) := by decide +kernel
theorem d_X5_copy_182 : decode cX5_copy 182 = .ok (.iadd, 1) := by decide +kernel
theorem d_X5_copy_183 : decode cX5_copy 183 = .ok (.iload 6, 2) := by decide +kernel
theorem d_X5_copy_185 : decode cX5_copy 185 = .ok (.iadd, 1) := by decide +kernel
theorem d_X5_copy_186 : decode cX5_copy 186 = .ok (.aload_n 0, 1) := by decide +kernel
theorem d_X5_copy_187 : decode cX5_copy 187 = .ok (.getfield 57, 3) := by decide +kernel
theorem d_X5_copy_190 : decode cX5_copy 190 = .ok (.iload 6, 2) := by decide +kernel
theorem d_X5_copy_192 : decode cX5_copy 192 = .ok (.iaload, 1) := by decide +kernel
theorem d_X5_copy_193 : decode cX5_copy 193 = .ok (.iastore, 1) := by decide +kernel
theorem d_X5_copy_194 : decode cX5_copy 194 = .ok (.iinc 6 1, 3) := by decide +kernel
theorem d_X5_copy_197 : decode cX5_copy 197 = .ok (.goto (-32), 3) := by decide +kernel
theorem d_X5_copy_200 : decode cX5_copy 200 = .ok (.iload 5, 2) := by decide +kernel
theorem d_X5_copy_202 : decode cX5_copy 202 = .ok (.ireturn, 1) := by decide +kernel
noncomputable def P_X5_copy : Nat → Op := fun pc => nd 103 pc (nd 52 pc (nd 27 pc (nd 15 pc (nd 7 pc (nd 1 pc (lf 0 pc (oILd 1 1)) (nd 4 pc (lf 1 pc (oCaS 1 S_X5_isSheet 4)) (lf 4 pc (oIfEq 14 7)))) (nd 11 pc (nd 8 pc (lf 7 pc (oILd 3 8)) (lf 8 pc (oCaS 1 S_X5_isSheet 11))) (nd 14 pc (lf 11 pc (oIfEq 14 21)) (lf 14 pc (oALd 0 15))))) (nd 21 pc (nd 17 pc (lf 15 pc (oCst (-1000001) 17)) (nd 20 pc (lf 17 pc (oCaV 2 5 S_X5_finding 20)) (lf 20 pc (oIRet)))) (nd 25 pc (nd 22 pc (lf 21 pc (oALd 0 22)) (lf 22 pc (oGetR 5 18 25))) (nd 26 pc (lf 25 pc (oILd 1 26)) (lf 26 pc (oIAL 27)))))) (nd 40 pc (nd 34 pc (nd 30 pc (lf 27 pc (oIfEq 39 30)) (nd 31 pc (lf 30 pc (oALd 0 31)) (lf 31 pc (oGetR 5 18 34)))) (nd 36 pc (nd 35 pc (lf 34 pc (oILd 3 35)) (lf 35 pc (oIAL 36))) (nd 39 pc (lf 36 pc (oIfEq 39 46)) (lf 39 pc (oALd 0 40))))) (nd 46 pc (nd 42 pc (lf 40 pc (oCst (-1000006) 42)) (nd 45 pc (lf 42 pc (oCaV 2 5 S_X5_finding 45)) (lf 45 pc (oIRet)))) (nd 50 pc (nd 47 pc (lf 46 pc (oALd 0 47)) (lf 47 pc (oGetR 5 18 50))) (nd 51 pc (lf 50 pc (oILd 1 51)) (lf 51 pc (oIAL 52))))))) (nd 80 pc (nd 65 pc (nd 57 pc (nd 53 pc (lf 52 pc (oALd 0 53)) (nd 56 pc (lf 53 pc (oGetR 5 18 56)) (lf 56 pc (oILd 3 57)))) (nd 61 pc (nd 58 pc (lf 57 pc (oIAL 58)) (lf 58 pc (oCpEq 69 61))) (nd 62 pc (lf 61 pc (oALd 0 62)) (lf 62 pc (oCst (-1000003) 65))))) (nd 70 pc (nd 68 pc (lf 65 pc (oCaV 2 5 S_X5_finding 68)) (nd 69 pc (lf 68 pc (oIRet)) (lf 69 pc (oILd 2 70)))) (nd 75 pc (nd 73 pc (lf 70 pc (oIfLt 118 73)) (lf 73 pc (oILd 4 75))) (nd 78 pc (lf 75 pc (oIfLt 118 78)) (lf 78 pc (oILd 5 80)))))) (nd 90 pc (nd 85 pc (nd 83 pc (lf 80 pc (oIfLt 118 83)) (nd 84 pc (lf 83 pc (oILd 2 84)) (lf 84 pc (oI2L 85)))) (nd 88 pc (nd 87 pc (lf 85 pc (oILd 5 87)) (lf 87 pc (oI2L 88))) (nd 89 pc (lf 88 pc (oLBin (fun x y => x + y) 89)) (lf 89 pc (oALd 0 90))))) (nd 96 pc (nd 94 pc (nd 93 pc (lf 90 pc (oGetR 5 19 93)) (lf 93 pc (oILd 1 94))) (nd 95 pc (lf 94 pc (oIAL 95)) (lf 95 pc (oI2L 96)))) (nd 100 pc (nd 97 pc (lf 96 pc (oLCmp 97)) (lf 97 pc (oIfGt 118 100))) (nd 102 pc (lf 100 pc (oILd 4 102)) (lf 102 pc (oI2L 103)))))))) (nd 151 pc (nd 125 pc (nd 113 pc (nd 107 pc (nd 105 pc (lf 103 pc (oILd 5 105)) (nd 106 pc (lf 105 pc (oI2L 106)) (lf 106 pc (oLBin (fun x y => x + y) 107)))) (nd 111 pc (nd 108 pc (lf 107 pc (oALd 0 108)) (lf 108 pc (oGetR 5 19 111))) (nd 112 pc (lf 111 pc (oILd 3 112)) (lf 112 pc (oIAL 113))))) (nd 118 pc (nd 114 pc (lf 113 pc (oI2L 114)) (nd 115 pc (lf 114 pc (oLCmp 115)) (lf 115 pc (oIfGt 118 125)))) (nd 121 pc (nd 119 pc (lf 118 pc (oALd 0 119)) (lf 119 pc (oCst (-1000001) 121))) (nd 124 pc (lf 121 pc (oCaV 2 5 S_X5_finding 124)) (lf 124 pc (oIRet)))))) (nd 139 pc (nd 130 pc (nd 126 pc (lf 125 pc (oCst 0 126)) (nd 128 pc (lf 126 pc (oISt 6 128)) (lf 128 pc (lockO (oILd 6 130) 0)))) (nd 135 pc (nd 132 pc (lf 130 pc (oILd 5 132)) (lf 132 pc (oCpLt 135 162))) (nd 136 pc (lf 135 pc (oALd 0 136)) (lf 136 pc (oGetR 5 21 139))))) (nd 147 pc (nd 142 pc (nd 141 pc (lf 139 pc (oILd 6 141)) (lf 141 pc (oALd 0 142))) (nd 145 pc (lf 142 pc (oGetR 5 20 145)) (lf 145 pc (oCst 40 147)))) (nd 149 pc (nd 148 pc (lf 147 pc (oILd 1 148)) (lf 148 pc (oBin (fun x y => x * y) 149))) (nd 150 pc (lf 149 pc (oILd 2 150)) (lf 150 pc (oBin (fun x y => x + y) 151))))))) (nd 178 pc (nd 163 pc (nd 155 pc (nd 153 pc (lf 151 pc (oILd 6 153)) (nd 154 pc (lf 153 pc (oBin (fun x y => x + y) 154)) (lf 154 pc (oIAL 155)))) (nd 159 pc (nd 156 pc (lf 155 pc (oIAS 156)) (lf 156 pc (oInc 6 1 159))) (nd 162 pc (lf 159 pc (oGo 128)) (lf 162 pc (oCst 0 163))))) (nd 169 pc (nd 165 pc (lf 163 pc (oISt 6 165)) (nd 167 pc (lf 165 pc (lockO (oILd 6 167) 0)) (lf 167 pc (oILd 5 169)))) (nd 173 pc (nd 172 pc (lf 169 pc (oCpLt 172 200)) (lf 172 pc (oALd 0 173))) (nd 176 pc (lf 173 pc (oGetR 5 20 176)) (lf 176 pc (oCst 40 178)))))) (nd 187 pc (nd 182 pc (nd 179 pc (lf 178 pc (oILd 3 179)) (nd 180 pc (lf 179 pc (oBin (fun x y => x * y) 180)) (lf 180 pc (oILd 4 182)))) (nd 185 pc (nd 183 pc (lf 182 pc (oBin (fun x y => x + y) 183)) (lf 183 pc (oILd 6 185))) (nd 186 pc (lf 185 pc (oBin (fun x y => x + y) 186)) (lf 186 pc (oALd 0 187))))) (nd 194 pc (nd 192 pc (nd 190 pc (lf 187 pc (oGetR 5 21 190)) (lf 190 pc (oILd 6 192))) (nd 193 pc (lf 192 pc (oIAL 193)) (lf 193 pc (oIAS 194)))) (nd 200 pc (nd 197 pc (lf 194 pc (oInc 6 1 197)) (lf 197 pc (oGo 165))) (nd 202 pc (lf 200 pc (oILd 5 202)) (lf 202 pc (oIRet))))))))
theorem ok_X5_copy {l : Launch} {G : Gm} : ∀ pc, OkU (TXm l G (rmD 3) 7 cX5_copy RX5) (RXm l G (rmD 3) 7 cX5_copy RX5 (some .int)) pc (P_X5_copy pc) := fun pc => ok_nd (ok_nd (ok_nd (ok_nd (ok_nd (ok_nd (ok_lf (ok_ILdn d_X5_copy_0 rfl rfl)) (ok_nd (ok_lf (ok_CaS su_X5_isSheet d_X5_copy_1 q1016 q1017 q6 q1018 ⟨by decide +kernel, by decide +kernel, by decide +kernel⟩ ⟨by decide, by decide⟩ rfl)) (ok_lf (ok_IfEq d_X5_copy_4 (by decide) rfl)))) (ok_nd (ok_nd (ok_lf (ok_ILdn d_X5_copy_7 rfl rfl)) (ok_lf (ok_CaS su_X5_isSheet d_X5_copy_8 q1016 q1017 q6 q1018 ⟨by decide +kernel, by decide +kernel, by decide +kernel⟩ ⟨by decide, by decide⟩ rfl))) (ok_nd (ok_lf (ok_IfNe d_X5_copy_11 (by decide) rfl)) (ok_lf (ok_ALdn d_X5_copy_14 rfl rfl))))) (ok_nd (ok_nd (ok_lf (ok_Ldc d_X5_copy_15 q781 rfl)) (ok_nd (ok_lf (ok_CaV su_X5_finding (by decide) rfl d_X5_copy_17 q782 q784 z56 q6 q785 ⟨by decide +kernel, by decide +kernel, by decide +kernel⟩ ⟨by decide, by decide⟩ rfl)) (ok_lf (ok_IRet d_X5_copy_20)))) (ok_nd (ok_nd (ok_lf (ok_ALdn d_X5_copy_21 rfl rfl)) (ok_lf (ok_GetR (by decide) (by decide) rfl d_X5_copy_22 q721 rfl))) (ok_nd (ok_lf (ok_ILdn d_X5_copy_25 rfl rfl)) (ok_lf (ok_IAL d_X5_copy_26 rfl)))))) (ok_nd (ok_nd (ok_nd (ok_lf (ok_IfEq d_X5_copy_27 (by decide) rfl)) (ok_nd (ok_lf (ok_ALdn d_X5_copy_30 rfl rfl)) (ok_lf (ok_GetR (by decide) (by decide) rfl d_X5_copy_31 q721 rfl)))) (ok_nd (ok_nd (ok_lf (ok_ILdn d_X5_copy_34 rfl rfl)) (ok_lf (ok_IAL d_X5_copy_35 rfl))) (ok_nd (ok_lf (ok_IfNe d_X5_copy_36 (by decide) rfl)) (ok_lf (ok_ALdn d_X5_copy_39 rfl rfl))))) (ok_nd (ok_nd (ok_lf (ok_Ldc d_X5_copy_40 q1019 rfl)) (ok_nd (ok_lf (ok_CaV su_X5_finding (by decide) rfl d_X5_copy_42 q782 q784 z56 q6 q785 ⟨by decide +kernel, by decide +kernel, by decide +kernel⟩ ⟨by decide, by decide⟩ rfl)) (ok_lf (ok_IRet d_X5_copy_45)))) (ok_nd (ok_nd (ok_lf (ok_ALdn d_X5_copy_46 rfl rfl)) (ok_lf (ok_GetR (by decide) (by decide) rfl d_X5_copy_47 q721 rfl))) (ok_nd (ok_lf (ok_ILdn d_X5_copy_50 rfl rfl)) (ok_lf (ok_IAL d_X5_copy_51 rfl))))))) (ok_nd (ok_nd (ok_nd (ok_nd (ok_lf (ok_ALdn d_X5_copy_52 rfl rfl)) (ok_nd (ok_lf (ok_GetR (by decide) (by decide) rfl d_X5_copy_53 q721 rfl)) (ok_lf (ok_ILdn d_X5_copy_56 rfl rfl)))) (ok_nd (ok_nd (ok_lf (ok_IAL d_X5_copy_57 rfl)) (ok_lf (ok_CpEq d_X5_copy_58 (by decide) rfl))) (ok_nd (ok_lf (ok_ALdn d_X5_copy_61 rfl rfl)) (ok_lf (ok_LdcW d_X5_copy_62 q1134 rfl))))) (ok_nd (ok_nd (ok_lf (ok_CaV su_X5_finding (by decide) rfl d_X5_copy_65 q782 q784 z56 q6 q785 ⟨by decide +kernel, by decide +kernel, by decide +kernel⟩ ⟨by decide, by decide⟩ rfl)) (ok_nd (ok_lf (ok_IRet d_X5_copy_68)) (ok_lf (ok_ILdn d_X5_copy_69 rfl rfl)))) (ok_nd (ok_nd (ok_lf (ok_IfLt d_X5_copy_70 (by decide) rfl)) (ok_lf (ok_ILd d_X5_copy_73 rfl))) (ok_nd (ok_lf (ok_IfLt d_X5_copy_75 (by decide) rfl)) (ok_lf (ok_ILd d_X5_copy_78 rfl)))))) (ok_nd (ok_nd (ok_nd (ok_lf (ok_IfLt d_X5_copy_80 (by decide) rfl)) (ok_nd (ok_lf (ok_ILdn d_X5_copy_83 rfl rfl)) (ok_lf (ok_I2L d_X5_copy_84 rfl)))) (ok_nd (ok_nd (ok_lf (ok_ILd d_X5_copy_85 rfl)) (ok_lf (ok_I2L d_X5_copy_87 rfl))) (ok_nd (ok_lf (ok_ladd d_X5_copy_88 rfl)) (ok_lf (ok_ALdn d_X5_copy_89 rfl rfl))))) (ok_nd (ok_nd (ok_nd (ok_lf (ok_GetR (by decide) (by decide) rfl d_X5_copy_90 q722 rfl)) (ok_lf (ok_ILdn d_X5_copy_93 rfl rfl))) (ok_nd (ok_lf (ok_IAL d_X5_copy_94 rfl)) (ok_lf (ok_I2L d_X5_copy_95 rfl)))) (ok_nd (ok_nd (ok_lf (ok_LCmp d_X5_copy_96 rfl)) (ok_lf (ok_IfGt d_X5_copy_97 (by decide) rfl))) (ok_nd (ok_lf (ok_ILd d_X5_copy_100 rfl)) (ok_lf (ok_I2L d_X5_copy_102 rfl)))))))) (ok_nd (ok_nd (ok_nd (ok_nd (ok_nd (ok_lf (ok_ILd d_X5_copy_103 rfl)) (ok_nd (ok_lf (ok_I2L d_X5_copy_105 rfl)) (ok_lf (ok_ladd d_X5_copy_106 rfl)))) (ok_nd (ok_nd (ok_lf (ok_ALdn d_X5_copy_107 rfl rfl)) (ok_lf (ok_GetR (by decide) (by decide) rfl d_X5_copy_108 q722 rfl))) (ok_nd (ok_lf (ok_ILdn d_X5_copy_111 rfl rfl)) (ok_lf (ok_IAL d_X5_copy_112 rfl))))) (ok_nd (ok_nd (ok_lf (ok_I2L d_X5_copy_113 rfl)) (ok_nd (ok_lf (ok_LCmp d_X5_copy_114 rfl)) (ok_lf (ok_IfLe d_X5_copy_115 (by decide) rfl)))) (ok_nd (ok_nd (ok_lf (ok_ALdn d_X5_copy_118 rfl rfl)) (ok_lf (ok_Ldc d_X5_copy_119 q781 rfl))) (ok_nd (ok_lf (ok_CaV su_X5_finding (by decide) rfl d_X5_copy_121 q782 q784 z56 q6 q785 ⟨by decide +kernel, by decide +kernel, by decide +kernel⟩ ⟨by decide, by decide⟩ rfl)) (ok_lf (ok_IRet d_X5_copy_124)))))) (ok_nd (ok_nd (ok_nd (ok_lf (ok_ICst d_X5_copy_125 (by decide) rfl)) (ok_nd (ok_lf (ok_ISt d_X5_copy_126 rfl)) (ok_lf (ok_lk (ok_ILd d_X5_copy_128 rfl))))) (ok_nd (ok_nd (ok_lf (ok_ILd d_X5_copy_130 rfl)) (ok_lf (ok_CpGe d_X5_copy_132 (by decide) rfl))) (ok_nd (ok_lf (ok_ALdn d_X5_copy_135 rfl rfl)) (ok_lf (ok_GetR (by decide) (by decide) rfl d_X5_copy_136 q724 rfl))))) (ok_nd (ok_nd (ok_nd (ok_lf (ok_ILd d_X5_copy_139 rfl)) (ok_lf (ok_ALdn d_X5_copy_141 rfl rfl))) (ok_nd (ok_lf (ok_GetR (by decide) (by decide) rfl d_X5_copy_142 q723 rfl)) (ok_lf (ok_BCst d_X5_copy_145 (by decide) rfl)))) (ok_nd (ok_nd (ok_lf (ok_ILdn d_X5_copy_147 rfl rfl)) (ok_lf (ok_imul d_X5_copy_148 rfl))) (ok_nd (ok_lf (ok_ILdn d_X5_copy_149 rfl rfl)) (ok_lf (ok_iadd d_X5_copy_150 rfl))))))) (ok_nd (ok_nd (ok_nd (ok_nd (ok_lf (ok_ILd d_X5_copy_151 rfl)) (ok_nd (ok_lf (ok_iadd d_X5_copy_153 rfl)) (ok_lf (ok_IAL d_X5_copy_154 rfl)))) (ok_nd (ok_nd (ok_lf (ok_IAS d_X5_copy_155 rfl)) (ok_lf (ok_Inc d_X5_copy_156 (by decide) rfl))) (ok_nd (ok_lf (ok_Go d_X5_copy_159 (by decide))) (ok_lf (ok_ICst d_X5_copy_162 (by decide) rfl))))) (ok_nd (ok_nd (ok_lf (ok_ISt d_X5_copy_163 rfl)) (ok_nd (ok_lf (ok_lk (ok_ILd d_X5_copy_165 rfl))) (ok_lf (ok_ILd d_X5_copy_167 rfl)))) (ok_nd (ok_nd (ok_lf (ok_CpGe d_X5_copy_169 (by decide) rfl)) (ok_lf (ok_ALdn d_X5_copy_172 rfl rfl))) (ok_nd (ok_lf (ok_GetR (by decide) (by decide) rfl d_X5_copy_173 q723 rfl)) (ok_lf (ok_BCst d_X5_copy_176 (by decide) rfl)))))) (ok_nd (ok_nd (ok_nd (ok_lf (ok_ILdn d_X5_copy_178 rfl rfl)) (ok_nd (ok_lf (ok_imul d_X5_copy_179 rfl)) (ok_lf (ok_ILd d_X5_copy_180 rfl)))) (ok_nd (ok_nd (ok_lf (ok_iadd d_X5_copy_182 rfl)) (ok_lf (ok_ILd d_X5_copy_183 rfl))) (ok_nd (ok_lf (ok_iadd d_X5_copy_185 rfl)) (ok_lf (ok_ALdn d_X5_copy_186 rfl rfl))))) (ok_nd (ok_nd (ok_nd (ok_lf (ok_GetR (by decide) (by decide) rfl d_X5_copy_187 q724 rfl)) (ok_lf (ok_ILd d_X5_copy_190 rfl))) (ok_nd (ok_lf (ok_IAL d_X5_copy_192 rfl)) (ok_lf (ok_IAS d_X5_copy_193 rfl)))) (ok_nd (ok_nd (ok_lf (ok_Inc d_X5_copy_194 (by decide) rfl)) (ok_lf (ok_Go d_X5_copy_197 (by decide)))) (ok_nd (ok_lf (ok_ILd d_X5_copy_200 rfl)) (ok_lf (ok_IRet d_X5_copy_202))))))))
noncomputable def S_X5_copy : Sem := lockS (inl P_X5_copy 30000 7) 0
theorem su_X5_copy {l : Launch} {G : Gm} : SemU l G yX5_copy (wsOf yX5_copy cX5_copy 7 (some .int)) 3 S_X5_copy := sem_lock (sem_inl 30000 (by decide +kernel) rfl ok_X5_copy)
theorem d_X5_load_0 : decode cX5_load 0 = .ok (.aload_n 0, 1) := by decide +kernel
theorem d_X5_load_1 : decode cX5_load 1 = .ok (.iload_n 1, 1) := by decide +kernel
theorem d_X5_load_2 : decode cX5_load 2 = .ok (.iconst 1, 1) := by decide +kernel
theorem d_X5_load_3 : decode cX5_load 3 = .ok (.invokevirtual 213, 3) := by decide +kernel
theorem d_X5_load_6 : decode cX5_load 6 = .ok (.ifCond .eq 14, 3) := by decide +kernel
theorem d_X5_load_9 : decode cX5_load 9 = .ok (.aload_n 0, 1) := by decide +kernel
theorem d_X5_load_10 : decode cX5_load 10 = .ok (.aload_n 0, 1) := by decide +kernel
theorem d_X5_load_11 : decode cX5_load 11 = .ok (.iload_n 1, 1) := by decide +kernel
theorem d_X5_load_12 : decode cX5_load 12 = .ok (.iconst 1, 1) := by decide +kernel
theorem d_X5_load_13 : decode cX5_load 13 = .ok (.invokevirtual 213, 3) := by decide +kernel
theorem d_X5_load_16 : decode cX5_load 16 = .ok (.invokevirtual 66, 3) := by decide +kernel
theorem d_X5_load_19 : decode cX5_load 19 = .ok (.ireturn, 1) := by decide +kernel
theorem d_X5_load_20 : decode cX5_load 20 = .ok (.iconst 0, 1) := by decide +kernel
theorem d_X5_load_21 : decode cX5_load 21 = .ok (.istore_n 2, 1) := by decide +kernel
theorem d_X5_load_22 : decode cX5_load 22 = .ok (.iload_n 2, 1) := by decide +kernel
theorem d_X5_load_23 : decode cX5_load 23 = .ok (.aload_n 0, 1) := by decide +kernel
theorem d_X5_load_24 : decode cX5_load 24 = .ok (.getfield 51, 3) := by decide +kernel
theorem d_X5_load_27 : decode cX5_load 27 = .ok (.iload_n 1, 1) := by decide +kernel
theorem d_X5_load_28 : decode cX5_load 28 = .ok (.iaload, 1) := by decide +kernel
theorem d_X5_load_29 : decode cX5_load 29 = .ok (.if_icmp .ge 58, 3) := by decide +kernel
theorem d_X5_load_32 : decode cX5_load 32 = .ok (.aload_n 0, 1) := by decide +kernel
theorem d_X5_load_33 : decode cX5_load 33 = .ok (.iload_n 2, 1) := by decide +kernel
theorem d_X5_load_34 : decode cX5_load 34 = .ok (.invokevirtual 121, 3) := by decide +kernel
theorem d_X5_load_37 : decode cX5_load 37 = .ok (.ifCond .eq 50, 3) := by decide +kernel
theorem d_X5_load_40 : decode cX5_load 40 = .ok (.aload_n 0, 1) := by decide +kernel
theorem d_X5_load_41 : decode cX5_load 41 = .ok (.getfield 54, 3) := by decide +kernel
theorem d_X5_load_44 : decode cX5_load 44 = .ok (.bipush 40, 2) := by decide +kernel
theorem d_X5_load_46 : decode cX5_load 46 = .ok (.iload_n 1, 1) := by decide +kernel
theorem d_X5_load_47 : decode cX5_load 47 = .ok (.imul, 1) := by decide +kernel
theorem d_X5_load_48 : decode cX5_load 48 = .ok (.iload_n 2, 1) := by decide +kernel
theorem d_X5_load_49 : decode cX5_load 49 = .ok (.iadd, 1) := by decide +kernel
theorem d_X5_load_50 : decode cX5_load 50 = .ok (.iaload, 1) := by decide +kernel
theorem d_X5_load_51 : decode cX5_load 51 = .ok (.iconst 0, 1) := by decide +kernel
theorem d_X5_load_52 : decode cX5_load 52 = .ok (.bipush 99, 2) := by decide +kernel
theorem d_X5_load_54 : decode cX5_load 54 = .ok (.invokestatic 70, 3) := by decide +kernel
theorem d_X5_load_57 : decode cX5_load 57 = .ok (.ifCond .eq 30, 3) := by decide +kernel
theorem d_X5_load_60 : decode cX5_load 60 = .ok (.aload_n 0, 1) := by decide +kernel
theorem d_X5_load_61 : decode cX5_load 61 = .ok (.getfield 9, 3) := by decide +kernel
theorem d_X5_load_64 : decode cX5_load 64 = .ok (.iload_n 2, 1) := by decide +kernel
theorem d_X5_load_65 : decode cX5_load 65 = .ok (.iconst 1, 1) := by decide +kernel
theorem d_X5_load_66 : decode cX5_load 66 = .ok (.invokestatic 85, 3) := by decide +kernel
theorem d_X5_load_69 : decode cX5_load 69 = .ok (.aload_n 0, 1) := by decide +kernel
theorem d_X5_load_70 : decode cX5_load 70 = .ok (.getfield 54, 3) := by decide +kernel
theorem d_X5_load_73 : decode cX5_load 73 = .ok (.bipush 40, 2) := by decide +kernel
theorem d_X5_load_75 : decode cX5_load 75 = .ok (.iload_n 1, 1) := by decide +kernel
theorem d_X5_load_76 : decode cX5_load 76 = .ok (.imul, 1) := by decide +kernel
theorem d_X5_load_77 : decode cX5_load 77 = .ok (.iload_n 2, 1) := by decide +kernel
theorem d_X5_load_78 : decode cX5_load 78 = .ok (.iadd, 1) := by decide +kernel
theorem d_X5_load_79 : decode cX5_load 79 = .ok (.iaload, 1) := by decide +kernel
theorem d_X5_load_80 : decode cX5_load 80 = .ok (.iastore, 1) := by decide +kernel
theorem d_X5_load_81 : decode cX5_load 81 = .ok (.iinc 2 1, 3) := by decide +kernel
theorem d_X5_load_84 : decode cX5_load 84 = .ok (.goto (-62), 3) := by decide +kernel
theorem d_X5_load_87 : decode cX5_load 87 = .ok (.iload_n 2, 1) := by decide +kernel
theorem d_X5_load_88 : decode cX5_load 88 = .ok (.ireturn, 1) := by decide +kernel
noncomputable def P_X5_load : Nat → Op := fun pc => nd 46 pc (nd 21 pc (nd 10 pc (nd 3 pc (nd 1 pc (lf 0 pc (oALd 0 1)) (nd 2 pc (lf 1 pc (oILd 1 2)) (lf 2 pc (oCst 1 3)))) (nd 6 pc (lf 3 pc (oCaV 3 5 S_X5_lacks 6)) (nd 9 pc (lf 6 pc (oIfEq 20 9)) (lf 9 pc (oALd 0 10))))) (nd 13 pc (nd 11 pc (lf 10 pc (oALd 0 11)) (nd 12 pc (lf 11 pc (oILd 1 12)) (lf 12 pc (oCst 1 13)))) (nd 19 pc (nd 16 pc (lf 13 pc (oCaV 3 5 S_X5_lacks 16)) (lf 16 pc (oCaV 2 5 S_X5_finding 19))) (nd 20 pc (lf 19 pc (oIRet)) (lf 20 pc (oCst 0 21)))))) (nd 32 pc (nd 24 pc (nd 22 pc (lf 21 pc (oISt 2 22)) (nd 23 pc (lf 22 pc (lockO (oILd 2 23) 0)) (lf 23 pc (oALd 0 24)))) (nd 28 pc (nd 27 pc (lf 24 pc (oGetR 5 19 27)) (lf 27 pc (oILd 1 28))) (nd 29 pc (lf 28 pc (oIAL 29)) (lf 29 pc (oCpLt 32 87))))) (nd 37 pc (nd 33 pc (lf 32 pc (oALd 0 33)) (nd 34 pc (lf 33 pc (oILd 2 34)) (lf 34 pc (oCaV 2 5 S_X5_isDisputant 37)))) (nd 41 pc (nd 40 pc (lf 37 pc (oIfEq 87 40)) (lf 40 pc (oALd 0 41))) (nd 44 pc (lf 41 pc (oGetR 5 20 44)) (lf 44 pc (oCst 40 46))))))) (nd 66 pc (nd 52 pc (nd 49 pc (nd 47 pc (lf 46 pc (oILd 1 47)) (nd 48 pc (lf 47 pc (oBin (fun x y => x * y) 48)) (lf 48 pc (oILd 2 49)))) (nd 50 pc (lf 49 pc (oBin (fun x y => x + y) 50)) (nd 51 pc (lf 50 pc (oIAL 51)) (lf 51 pc (oCst 0 52))))) (nd 60 pc (nd 54 pc (lf 52 pc (oCst 99 54)) (nd 57 pc (lf 54 pc (oCaS 3 S_X5_within 57)) (lf 57 pc (oIfEq 87 60)))) (nd 64 pc (nd 61 pc (lf 60 pc (oALd 0 61)) (lf 61 pc (oGetR 5 0 64))) (nd 65 pc (lf 64 pc (oILd 2 65)) (lf 65 pc (oCst 1 66)))))) (nd 78 pc (nd 73 pc (nd 69 pc (lf 66 pc (oCaS 2 S_X5_disputantAt 69)) (nd 70 pc (lf 69 pc (oALd 0 70)) (lf 70 pc (oGetR 5 20 73)))) (nd 76 pc (nd 75 pc (lf 73 pc (oCst 40 75)) (lf 75 pc (oILd 1 76))) (nd 77 pc (lf 76 pc (oBin (fun x y => x * y) 77)) (lf 77 pc (oILd 2 78))))) (nd 81 pc (nd 79 pc (lf 78 pc (oBin (fun x y => x + y) 79)) (nd 80 pc (lf 79 pc (oIAL 80)) (lf 80 pc (oIAS 81)))) (nd 87 pc (nd 84 pc (lf 81 pc (oInc 2 1 84)) (lf 84 pc (oGo 22))) (nd 88 pc (lf 87 pc (oILd 2 88)) (lf 88 pc (oIRet)))))))
theorem ok_X5_load {l : Launch} {G : Gm} : ∀ pc, OkU (TXm l G (rmD 4) 3 cX5_load RX5) (RXm l G (rmD 4) 3 cX5_load RX5 (some .int)) pc (P_X5_load pc) := fun pc => ok_nd (ok_nd (ok_nd (ok_nd (ok_nd (ok_lf (ok_ALdn d_X5_load_0 rfl rfl)) (ok_nd (ok_lf (ok_ILdn d_X5_load_1 rfl rfl)) (ok_lf (ok_ICst d_X5_load_2 (by decide) rfl)))) (ok_nd (ok_lf (ok_CaV su_X5_lacks (by decide) rfl d_X5_load_3 q1012 q1014 z84 q6 q1015 ⟨by decide +kernel, by decide +kernel, by decide +kernel⟩ ⟨by decide, by decide⟩ rfl)) (ok_nd (ok_lf (ok_IfEq d_X5_load_6 (by decide) rfl)) (ok_lf (ok_ALdn d_X5_load_9 rfl rfl))))) (ok_nd (ok_nd (ok_lf (ok_ALdn d_X5_load_10 rfl rfl)) (ok_nd (ok_lf (ok_ILdn d_X5_load_11 rfl rfl)) (ok_lf (ok_ICst d_X5_load_12 (by decide) rfl)))) (ok_nd (ok_nd (ok_lf (ok_CaV su_X5_lacks (by decide) rfl d_X5_load_13 q1012 q1014 z84 q6 q1015 ⟨by decide +kernel, by decide +kernel, by decide +kernel⟩ ⟨by decide, by decide⟩ rfl)) (ok_lf (ok_CaV su_X5_finding (by decide) rfl d_X5_load_16 q782 q784 z56 q6 q785 ⟨by decide +kernel, by decide +kernel, by decide +kernel⟩ ⟨by decide, by decide⟩ rfl))) (ok_nd (ok_lf (ok_IRet d_X5_load_19)) (ok_lf (ok_ICst d_X5_load_20 (by decide) rfl)))))) (ok_nd (ok_nd (ok_nd (ok_lf (ok_IStn d_X5_load_21 rfl rfl)) (ok_nd (ok_lf (ok_lk (ok_ILdn d_X5_load_22 rfl rfl))) (ok_lf (ok_ALdn d_X5_load_23 rfl rfl)))) (ok_nd (ok_nd (ok_lf (ok_GetR (by decide) (by decide) rfl d_X5_load_24 q722 rfl)) (ok_lf (ok_ILdn d_X5_load_27 rfl rfl))) (ok_nd (ok_lf (ok_IAL d_X5_load_28 rfl)) (ok_lf (ok_CpGe d_X5_load_29 (by decide) rfl))))) (ok_nd (ok_nd (ok_lf (ok_ALdn d_X5_load_32 rfl rfl)) (ok_nd (ok_lf (ok_ILdn d_X5_load_33 rfl rfl)) (ok_lf (ok_CaV su_X5_isDisputant (by decide) rfl d_X5_load_34 q823 q825 z58 q6 q826 ⟨by decide +kernel, by decide +kernel, by decide +kernel⟩ ⟨by decide, by decide⟩ rfl)))) (ok_nd (ok_nd (ok_lf (ok_IfEq d_X5_load_37 (by decide) rfl)) (ok_lf (ok_ALdn d_X5_load_40 rfl rfl))) (ok_nd (ok_lf (ok_GetR (by decide) (by decide) rfl d_X5_load_41 q723 rfl)) (ok_lf (ok_BCst d_X5_load_44 (by decide) rfl))))))) (ok_nd (ok_nd (ok_nd (ok_nd (ok_lf (ok_ILdn d_X5_load_46 rfl rfl)) (ok_nd (ok_lf (ok_imul d_X5_load_47 rfl)) (ok_lf (ok_ILdn d_X5_load_48 rfl rfl)))) (ok_nd (ok_lf (ok_iadd d_X5_load_49 rfl)) (ok_nd (ok_lf (ok_IAL d_X5_load_50 rfl)) (ok_lf (ok_ICst d_X5_load_51 (by decide) rfl))))) (ok_nd (ok_nd (ok_lf (ok_BCst d_X5_load_52 (by decide) rfl)) (ok_nd (ok_lf (ok_CaS su_X5_within d_X5_load_54 q774 q775 q6 q776 ⟨by decide +kernel, by decide +kernel, by decide +kernel⟩ ⟨by decide, by decide⟩ rfl)) (ok_lf (ok_IfEq d_X5_load_57 (by decide) rfl)))) (ok_nd (ok_nd (ok_lf (ok_ALdn d_X5_load_60 rfl rfl)) (ok_lf (ok_GetR (by decide) (by decide) rfl d_X5_load_61 q703 rfl))) (ok_nd (ok_lf (ok_ILdn d_X5_load_64 rfl rfl)) (ok_lf (ok_ICst d_X5_load_65 (by decide) rfl)))))) (ok_nd (ok_nd (ok_nd (ok_lf (ok_CaS su_X5_disputantAt d_X5_load_66 q816 q817 q6 q818 ⟨by decide +kernel, by decide +kernel, by decide +kernel⟩ ⟨by decide, by decide⟩ rfl)) (ok_nd (ok_lf (ok_ALdn d_X5_load_69 rfl rfl)) (ok_lf (ok_GetR (by decide) (by decide) rfl d_X5_load_70 q723 rfl)))) (ok_nd (ok_nd (ok_lf (ok_BCst d_X5_load_73 (by decide) rfl)) (ok_lf (ok_ILdn d_X5_load_75 rfl rfl))) (ok_nd (ok_lf (ok_imul d_X5_load_76 rfl)) (ok_lf (ok_ILdn d_X5_load_77 rfl rfl))))) (ok_nd (ok_nd (ok_lf (ok_iadd d_X5_load_78 rfl)) (ok_nd (ok_lf (ok_IAL d_X5_load_79 rfl)) (ok_lf (ok_IAS d_X5_load_80 rfl)))) (ok_nd (ok_nd (ok_lf (ok_Inc d_X5_load_81 (by decide) rfl)) (ok_lf (ok_Go d_X5_load_84 (by decide)))) (ok_nd (ok_lf (ok_ILdn d_X5_load_87 rfl rfl)) (ok_lf (ok_IRet d_X5_load_88)))))))
noncomputable def S_X5_load : Sem := lockS (inl P_X5_load 30000 3) 0
theorem su_X5_load {l : Launch} {G : Gm} : SemU l G yX5_load (wsOf yX5_load cX5_load 3 (some .int)) 4 S_X5_load := sem_lock (sem_inl 30000 (by decide +kernel) rfl ok_X5_load)
theorem d_X5_judge_0 : decode cX5_judge 0 = .ok (.aload_n 0, 1) := by decide +kernel
theorem d_X5_judge_1 : decode cX5_judge 1 = .ok (.iload_n 1, 1) := by decide +kernel
theorem d_X5_judge_2 : decode cX5_judge 2 = .ok (.iconst 1, 1) := by decide +kernel
theorem d_X5_judge_3 : decode cX5_judge 3 = .ok (.invokevirtual 213, 3) := by decide +kernel
theorem d_X5_judge_6 : decode cX5_judge 6 = .ok (.ifCond .eq 14, 3) := by decide +kernel
theorem d_X5_judge_9 : decode cX5_judge 9 = .ok (.aload_n 0, 1) := by decide +kernel
theorem d_X5_judge_10 : decode cX5_judge 10 = .ok (.aload_n 0, 1) := by decide +kernel
theorem d_X5_judge_11 : decode cX5_judge 11 = .ok (.iload_n 1, 1) := by decide +kernel
theorem d_X5_judge_12 : decode cX5_judge 12 = .ok (.iconst 1, 1) := by decide +kernel
theorem d_X5_judge_13 : decode cX5_judge 13 = .ok (.invokevirtual 213, 3) := by decide +kernel
theorem d_X5_judge_16 : decode cX5_judge 16 = .ok (.invokevirtual 66, 3) := by decide +kernel
theorem d_X5_judge_19 : decode cX5_judge 19 = .ok (.ireturn, 1) := by decide +kernel
theorem d_X5_judge_20 : decode cX5_judge 20 = .ok (.iconst 0, 1) := by decide +kernel
theorem d_X5_judge_21 : decode cX5_judge 21 = .ok (.istore_n 2, 1) := by decide +kernel
theorem d_X5_judge_22 : decode cX5_judge 22 = .ok (.iload_n 2, 1) := by decide +kernel
theorem d_X5_judge_23 : decode cX5_judge 23 = .ok (.aload_n 0, 1) := by decide +kernel
theorem d_X5_judge_24 : decode cX5_judge 24 = .ok (.getfield 51, 3) := by decide +kernel
theorem d_X5_judge_27 : decode cX5_judge 27 = .ok (.iload_n 1, 1) := by decide +kernel
theorem d_X5_judge_28 : decode cX5_judge 28 = .ok (.iaload, 1) := by decide +kernel
theorem d_X5_judge_29 : decode cX5_judge 29 = .ok (.if_icmp .ge 37, 3) := by decide +kernel
theorem d_X5_judge_32 : decode cX5_judge 32 = .ok (.aload_n 0, 1) := by decide +kernel
theorem d_X5_judge_33 : decode cX5_judge 33 = .ok (.iload_n 2, 1) := by decide +kernel
theorem d_X5_judge_34 : decode cX5_judge 34 = .ok (.invokevirtual 121, 3) := by decide +kernel
theorem d_X5_judge_37 : decode cX5_judge 37 = .ok (.ifCond .eq 29, 3) := by decide +kernel
theorem d_X5_judge_40 : decode cX5_judge 40 = .ok (.aload_n 0, 1) := by decide +kernel
theorem d_X5_judge_41 : decode cX5_judge 41 = .ok (.getfield 54, 3) := by decide +kernel
theorem d_X5_judge_44 : decode cX5_judge 44 = .ok (.bipush 40, 2) := by decide +kernel
theorem d_X5_judge_46 : decode cX5_judge 46 = .ok (.iload_n 1, 1) := by decide +kernel
theorem d_X5_judge_47 : decode cX5_judge 47 = .ok (.imul, 1) := by decide +kernel
theorem d_X5_judge_48 : decode cX5_judge 48 = .ok (.iload_n 2, 1) := by decide +kernel
theorem d_X5_judge_49 : decode cX5_judge 49 = .ok (.iadd, 1) := by decide +kernel
theorem d_X5_judge_50 : decode cX5_judge 50 = .ok (.iaload, 1) := by decide +kernel
theorem d_X5_judge_51 : decode cX5_judge 51 = .ok (.aload_n 0, 1) := by decide +kernel
theorem d_X5_judge_52 : decode cX5_judge 52 = .ok (.iload_n 2, 1) := by decide +kernel
theorem d_X5_judge_53 : decode cX5_judge 53 = .ok (.iconst 3, 1) := by decide +kernel
theorem d_X5_judge_54 : decode cX5_judge 54 = .ok (.invokevirtual 95, 3) := by decide +kernel
theorem d_X5_judge_57 : decode cX5_judge 57 = .ok (.if_icmp .ne 9, 3) := by decide +kernel
theorem d_X5_judge_60 : decode cX5_judge 60 = .ok (.iinc 2 1, 3) := by decide +kernel
theorem d_X5_judge_63 : decode cX5_judge 63 = .ok (.goto (-41), 3) := by decide +kernel
theorem d_X5_judge_66 : decode cX5_judge 66 = .ok (.iload_n 2, 1) := by decide +kernel
theorem d_X5_judge_67 : decode cX5_judge 67 = .ok (.aload_n 0, 1) := by decide +kernel
theorem d_X5_judge_68 : decode cX5_judge 68 = .ok (.getfield 51, 3) := by decide +kernel
theorem d_X5_judge_71 : decode cX5_judge 71 = .ok (.iload_n 1, 1) := by decide +kernel
theorem d_X5_judge_72 : decode cX5_judge 72 = .ok (.iaload, 1) := by decide +kernel
theorem d_X5_judge_73 : decode cX5_judge 73 = .ok (.if_icmp .ne 7, 3) := by decide +kernel
theorem d_X5_judge_76 : decode cX5_judge 76 = .ok (.iconst 0, 1) := by decide +kernel
theorem d_X5_judge_77 : decode cX5_judge 77 = .ok (.goto 6, 3) := by decide +kernel
theorem d_X5_judge_80 : decode cX5_judge 80 = .ok (.iconst 1, 1) := by decide +kernel
theorem d_X5_judge_81 : decode cX5_judge 81 = .ok (.iload_n 2, 1) := by decide +kernel
theorem d_X5_judge_82 : decode cX5_judge 82 = .ok (.iadd, 1) := by decide +kernel
theorem d_X5_judge_83 : decode cX5_judge 83 = .ok (.ireturn, 1) := by decide +kernel
noncomputable def P_X5_judge : Nat → Op := fun pc => nd 41 pc (nd 20 pc (nd 10 pc (nd 3 pc (nd 1 pc (lf 0 pc (oALd 0 1)) (nd 2 pc (lf 1 pc (oILd 1 2)) (lf 2 pc (oCst 1 3)))) (nd 6 pc (lf 3 pc (oCaV 3 5 S_X5_lacks 6)) (nd 9 pc (lf 6 pc (oIfEq 20 9)) (lf 9 pc (oALd 0 10))))) (nd 13 pc (nd 11 pc (lf 10 pc (oALd 0 11)) (nd 12 pc (lf 11 pc (oILd 1 12)) (lf 12 pc (oCst 1 13)))) (nd 16 pc (lf 13 pc (oCaV 3 5 S_X5_lacks 16)) (nd 19 pc (lf 16 pc (oCaV 2 5 S_X5_finding 19)) (lf 19 pc (oIRet)))))) (nd 28 pc (nd 23 pc (nd 21 pc (lf 20 pc (oCst 0 21)) (nd 22 pc (lf 21 pc (oISt 2 22)) (lf 22 pc (lockO (oILd 2 23) 0)))) (nd 24 pc (lf 23 pc (oALd 0 24)) (nd 27 pc (lf 24 pc (oGetR 5 19 27)) (lf 27 pc (oILd 1 28))))) (nd 33 pc (nd 29 pc (lf 28 pc (oIAL 29)) (nd 32 pc (lf 29 pc (oCpLt 32 66)) (lf 32 pc (oALd 0 33)))) (nd 37 pc (nd 34 pc (lf 33 pc (oILd 2 34)) (lf 34 pc (oCaV 2 5 S_X5_isDisputant 37))) (nd 40 pc (lf 37 pc (oIfEq 66 40)) (lf 40 pc (oALd 0 41))))))) (nd 63 pc (nd 50 pc (nd 47 pc (nd 44 pc (lf 41 pc (oGetR 5 20 44)) (nd 46 pc (lf 44 pc (oCst 40 46)) (lf 46 pc (oILd 1 47)))) (nd 48 pc (lf 47 pc (oBin (fun x y => x * y) 48)) (nd 49 pc (lf 48 pc (oILd 2 49)) (lf 49 pc (oBin (fun x y => x + y) 50))))) (nd 53 pc (nd 51 pc (lf 50 pc (oIAL 51)) (nd 52 pc (lf 51 pc (oALd 0 52)) (lf 52 pc (oILd 2 53)))) (nd 57 pc (nd 54 pc (lf 53 pc (oCst 3 54)) (lf 54 pc (oCaV 3 5 S_X5_disputantIs 57))) (nd 60 pc (lf 57 pc (oCpEq 60 66)) (lf 60 pc (oInc 2 1 63)))))) (nd 73 pc (nd 68 pc (nd 66 pc (lf 63 pc (oGo 22)) (nd 67 pc (lf 66 pc (oILd 2 67)) (lf 67 pc (oALd 0 68)))) (nd 71 pc (lf 68 pc (oGetR 5 19 71)) (nd 72 pc (lf 71 pc (oILd 1 72)) (lf 72 pc (oIAL 73))))) (nd 80 pc (nd 76 pc (lf 73 pc (oCpEq 76 80)) (nd 77 pc (lf 76 pc (oCst 0 77)) (lf 77 pc (oGo 83)))) (nd 82 pc (nd 81 pc (lf 80 pc (oCst 1 81)) (lf 81 pc (oILd 2 82))) (nd 83 pc (lf 82 pc (oBin (fun x y => x + y) 83)) (lf 83 pc (oIRet)))))))
theorem ok_X5_judge {l : Launch} {G : Gm} : ∀ pc, OkU (TXm l G (rmD 4) 3 cX5_judge RX5) (RXm l G (rmD 4) 3 cX5_judge RX5 (some .int)) pc (P_X5_judge pc) := fun pc => ok_nd (ok_nd (ok_nd (ok_nd (ok_nd (ok_lf (ok_ALdn d_X5_judge_0 rfl rfl)) (ok_nd (ok_lf (ok_ILdn d_X5_judge_1 rfl rfl)) (ok_lf (ok_ICst d_X5_judge_2 (by decide) rfl)))) (ok_nd (ok_lf (ok_CaV su_X5_lacks (by decide) rfl d_X5_judge_3 q1012 q1014 z84 q6 q1015 ⟨by decide +kernel, by decide +kernel, by decide +kernel⟩ ⟨by decide, by decide⟩ rfl)) (ok_nd (ok_lf (ok_IfEq d_X5_judge_6 (by decide) rfl)) (ok_lf (ok_ALdn d_X5_judge_9 rfl rfl))))) (ok_nd (ok_nd (ok_lf (ok_ALdn d_X5_judge_10 rfl rfl)) (ok_nd (ok_lf (ok_ILdn d_X5_judge_11 rfl rfl)) (ok_lf (ok_ICst d_X5_judge_12 (by decide) rfl)))) (ok_nd (ok_lf (ok_CaV su_X5_lacks (by decide) rfl d_X5_judge_13 q1012 q1014 z84 q6 q1015 ⟨by decide +kernel, by decide +kernel, by decide +kernel⟩ ⟨by decide, by decide⟩ rfl)) (ok_nd (ok_lf (ok_CaV su_X5_finding (by decide) rfl d_X5_judge_16 q782 q784 z56 q6 q785 ⟨by decide +kernel, by decide +kernel, by decide +kernel⟩ ⟨by decide, by decide⟩ rfl)) (ok_lf (ok_IRet d_X5_judge_19)))))) (ok_nd (ok_nd (ok_nd (ok_lf (ok_ICst d_X5_judge_20 (by decide) rfl)) (ok_nd (ok_lf (ok_IStn d_X5_judge_21 rfl rfl)) (ok_lf (ok_lk (ok_ILdn d_X5_judge_22 rfl rfl))))) (ok_nd (ok_lf (ok_ALdn d_X5_judge_23 rfl rfl)) (ok_nd (ok_lf (ok_GetR (by decide) (by decide) rfl d_X5_judge_24 q722 rfl)) (ok_lf (ok_ILdn d_X5_judge_27 rfl rfl))))) (ok_nd (ok_nd (ok_lf (ok_IAL d_X5_judge_28 rfl)) (ok_nd (ok_lf (ok_CpGe d_X5_judge_29 (by decide) rfl)) (ok_lf (ok_ALdn d_X5_judge_32 rfl rfl)))) (ok_nd (ok_nd (ok_lf (ok_ILdn d_X5_judge_33 rfl rfl)) (ok_lf (ok_CaV su_X5_isDisputant (by decide) rfl d_X5_judge_34 q823 q825 z58 q6 q826 ⟨by decide +kernel, by decide +kernel, by decide +kernel⟩ ⟨by decide, by decide⟩ rfl))) (ok_nd (ok_lf (ok_IfEq d_X5_judge_37 (by decide) rfl)) (ok_lf (ok_ALdn d_X5_judge_40 rfl rfl))))))) (ok_nd (ok_nd (ok_nd (ok_nd (ok_lf (ok_GetR (by decide) (by decide) rfl d_X5_judge_41 q723 rfl)) (ok_nd (ok_lf (ok_BCst d_X5_judge_44 (by decide) rfl)) (ok_lf (ok_ILdn d_X5_judge_46 rfl rfl)))) (ok_nd (ok_lf (ok_imul d_X5_judge_47 rfl)) (ok_nd (ok_lf (ok_ILdn d_X5_judge_48 rfl rfl)) (ok_lf (ok_iadd d_X5_judge_49 rfl))))) (ok_nd (ok_nd (ok_lf (ok_IAL d_X5_judge_50 rfl)) (ok_nd (ok_lf (ok_ALdn d_X5_judge_51 rfl rfl)) (ok_lf (ok_ILdn d_X5_judge_52 rfl rfl)))) (ok_nd (ok_nd (ok_lf (ok_ICst d_X5_judge_53 (by decide) rfl)) (ok_lf (ok_CaV su_X5_disputantIs (by decide) rfl d_X5_judge_54 q835 q837 z61 q6 q838 ⟨by decide +kernel, by decide +kernel, by decide +kernel⟩ ⟨by decide, by decide⟩ rfl))) (ok_nd (ok_lf (ok_CpNe d_X5_judge_57 (by decide) rfl)) (ok_lf (ok_Inc d_X5_judge_60 (by decide) rfl)))))) (ok_nd (ok_nd (ok_nd (ok_lf (ok_Go d_X5_judge_63 (by decide))) (ok_nd (ok_lf (ok_ILdn d_X5_judge_66 rfl rfl)) (ok_lf (ok_ALdn d_X5_judge_67 rfl rfl)))) (ok_nd (ok_lf (ok_GetR (by decide) (by decide) rfl d_X5_judge_68 q722 rfl)) (ok_nd (ok_lf (ok_ILdn d_X5_judge_71 rfl rfl)) (ok_lf (ok_IAL d_X5_judge_72 rfl))))) (ok_nd (ok_nd (ok_lf (ok_CpNe d_X5_judge_73 (by decide) rfl)) (ok_nd (ok_lf (ok_ICst d_X5_judge_76 (by decide) rfl)) (ok_lf (ok_Go d_X5_judge_77 (by decide))))) (ok_nd (ok_nd (ok_lf (ok_ICst d_X5_judge_80 (by decide) rfl)) (ok_lf (ok_ILdn d_X5_judge_81 rfl rfl))) (ok_nd (ok_lf (ok_iadd d_X5_judge_82 rfl)) (ok_lf (ok_IRet d_X5_judge_83)))))))
noncomputable def S_X5_judge : Sem := lockS (inl P_X5_judge 30000 3) 0
theorem su_X5_judge {l : Launch} {G : Gm} : SemU l G yX5_judge (wsOf yX5_judge cX5_judge 3 (some .int)) 4 S_X5_judge := sem_lock (sem_inl 30000 (by decide +kernel) rfl ok_X5_judge)
theorem d_X5_image_0 : decode cX5_image 0 = .ok (.aload_n 0, 1) := by decide +kernel
theorem d_X5_image_1 : decode cX5_image 1 = .ok (.getfield 9, 3) := by decide +kernel
theorem d_X5_image_4 : decode cX5_image 4 = .ok (.aload_n 0, 1) := by decide +kernel
theorem d_X5_image_5 : decode cX5_image 5 = .ok (.getfield 13, 3) := by decide +kernel
theorem d_X5_image_8 : decode cX5_image 8 = .ok (.invokestatic 61, 3) := by decide +kernel
theorem d_X5_image_11 : decode cX5_image 11 = .ok (.aload_n 0, 1) := by decide +kernel
theorem d_X5_image_12 : decode cX5_image 12 = .ok (.iconst 1, 1) := by decide +kernel
theorem d_X5_image_13 : decode cX5_image 13 = .ok (.putfield 317, 3) := by decide +kernel
theorem d_X5_image_16 : decode cX5_image 16 = .ok (.iconst 1, 1) := by decide +kernel
theorem d_X5_image_17 : decode cX5_image 17 = .ok (.ireturn, 1) := by decide +kernel
noncomputable def P_X5_image : Nat → Op := fun pc => nd 11 pc (nd 4 pc (nd 1 pc (lf 0 pc (oALd 0 1)) (lf 1 pc (oGetR 5 0 4))) (nd 5 pc (lf 4 pc (oALd 0 5)) (nd 8 pc (lf 5 pc (oGetR 5 1 8)) (lf 8 pc (oCaS 2 S_X5_copyRow 11))))) (nd 13 pc (nd 12 pc (lf 11 pc (oALd 0 12)) (lf 12 pc (oCst 1 13))) (nd 16 pc (lf 13 pc (oPutZ 5 3 16)) (nd 17 pc (lf 16 pc (oCst 1 17)) (lf 17 pc (oIRet)))))
theorem ok_X5_image {l : Launch} {G : Gm} : ∀ pc, OkU (TXm l G (rmD 2) 1 cX5_image RX5) (RXm l G (rmD 2) 1 cX5_image RX5 (some .int)) pc (P_X5_image pc) := fun pc => ok_nd (ok_nd (ok_nd (ok_lf (ok_ALdn d_X5_image_0 rfl rfl)) (ok_lf (ok_GetR (by decide) (by decide) rfl d_X5_image_1 q703 rfl))) (ok_nd (ok_lf (ok_ALdn d_X5_image_4 rfl rfl)) (ok_nd (ok_lf (ok_GetR (by decide) (by decide) rfl d_X5_image_5 q704 rfl)) (ok_lf (ok_CaS su_X5_copyRow d_X5_image_8 q939 q940 q6 q941 ⟨by decide +kernel, by decide +kernel, by decide +kernel⟩ ⟨by decide, by decide⟩ rfl))))) (ok_nd (ok_nd (ok_lf (ok_ALdn d_X5_image_11 rfl rfl)) (ok_lf (ok_ICst d_X5_image_12 (by decide) rfl))) (ok_nd (ok_lf (ok_PutZ (by decide) (by decide) rfl rfl (by decide +kernel) d_X5_image_13 q706 rfl)) (ok_nd (ok_lf (ok_ICst d_X5_image_16 (by decide) rfl)) (ok_lf (ok_IRet d_X5_image_17)))))
noncomputable def S_X5_image : Sem := lockS (inl P_X5_image 12 1) 0
theorem su_X5_image {l : Launch} {G : Gm} : SemU l G yX5_image (wsOf yX5_image cX5_image 1 (some .int)) 2 S_X5_image := sem_lock (sem_inl 12 (by decide +kernel) rfl ok_X5_image)
theorem d_X5_undo_0 : decode cX5_undo 0 = .ok (.aload_n 0, 1) := by decide +kernel
theorem d_X5_undo_1 : decode cX5_undo 1 = .ok (.getfield 317, 3) := by decide +kernel
theorem d_X5_undo_4 : decode cX5_undo 4 = .ok (.ifCond .ne 10, 3) := by decide +kernel
theorem d_X5_undo_7 : decode cX5_undo 7 = .ok (.aload_n 0, 1) := by decide +kernel
theorem d_X5_undo_8 : decode cX5_undo 8 = .ok (.ldc 65, 2) := by decide +kernel
theorem d_X5_undo_10 : decode cX5_undo 10 = .ok (.invokevirtual 66, 3) := by decide +kernel
theorem d_X5_undo_13 : decode cX5_undo 13 = .ok (.ireturn, 1) := by decide +kernel
theorem d_X5_undo_14 : decode cX5_undo 14 = .ok (.aload_n 0, 1) := by decide +kernel
theorem d_X5_undo_15 : decode cX5_undo 15 = .ok (.getfield 13, 3) := by decide +kernel
theorem d_X5_undo_18 : decode cX5_undo 18 = .ok (.aload_n 0, 1) := by decide +kernel
theorem d_X5_undo_19 : decode cX5_undo 19 = .ok (.getfield 9, 3) := by decide +kernel
theorem d_X5_undo_22 : decode cX5_undo 22 = .ok (.invokestatic 61, 3) := by decide +kernel
theorem d_X5_undo_25 : decode cX5_undo 25 = .ok (.aload_n 0, 1) := by decide +kernel
theorem d_X5_undo_26 : decode cX5_undo 26 = .ok (.getfield 9, 3) := by decide +kernel
theorem d_X5_undo_29 : decode cX5_undo 29 = .ok (.iconst 0, 1) := by decide +kernel
theorem d_X5_undo_30 : decode cX5_undo 30 = .ok (.iaload, 1) := by decide +kernel
theorem d_X5_undo_31 : decode cX5_undo 31 = .ok (.ireturn, 1) := by decide +kernel
noncomputable def P_X5_undo : Nat → Op := fun pc => nd 15 pc (nd 8 pc (nd 4 pc (nd 1 pc (lf 0 pc (oALd 0 1)) (lf 1 pc (oGetI 5 3 4))) (nd 7 pc (lf 4 pc (oIfEq 7 14)) (lf 7 pc (oALd 0 8)))) (nd 13 pc (nd 10 pc (lf 8 pc (oCst (-1000004) 10)) (lf 10 pc (oCaV 2 5 S_X5_finding 13))) (nd 14 pc (lf 13 pc (oIRet)) (lf 14 pc (oALd 0 15))))) (nd 25 pc (nd 19 pc (nd 18 pc (lf 15 pc (oGetR 5 1 18)) (lf 18 pc (oALd 0 19))) (nd 22 pc (lf 19 pc (oGetR 5 0 22)) (lf 22 pc (oCaS 2 S_X5_copyRow 25)))) (nd 29 pc (nd 26 pc (lf 25 pc (oALd 0 26)) (lf 26 pc (oGetR 5 0 29))) (nd 30 pc (lf 29 pc (oCst 0 30)) (nd 31 pc (lf 30 pc (oIAL 31)) (lf 31 pc (oIRet))))))
theorem ok_X5_undo {l : Launch} {G : Gm} : ∀ pc, OkU (TXm l G (rmD 2) 1 cX5_undo RX5) (RXm l G (rmD 2) 1 cX5_undo RX5 (some .int)) pc (P_X5_undo pc) := fun pc => ok_nd (ok_nd (ok_nd (ok_nd (ok_lf (ok_ALdn d_X5_undo_0 rfl rfl)) (ok_lf (ok_GetI (by decide) (by decide) rfl d_X5_undo_1 q706 rfl))) (ok_nd (ok_lf (ok_IfNe d_X5_undo_4 (by decide) rfl)) (ok_lf (ok_ALdn d_X5_undo_7 rfl rfl)))) (ok_nd (ok_nd (ok_lf (ok_Ldc d_X5_undo_8 q888 rfl)) (ok_lf (ok_CaV su_X5_finding (by decide) rfl d_X5_undo_10 q782 q784 z56 q6 q785 ⟨by decide +kernel, by decide +kernel, by decide +kernel⟩ ⟨by decide, by decide⟩ rfl))) (ok_nd (ok_lf (ok_IRet d_X5_undo_13)) (ok_lf (ok_ALdn d_X5_undo_14 rfl rfl))))) (ok_nd (ok_nd (ok_nd (ok_lf (ok_GetR (by decide) (by decide) rfl d_X5_undo_15 q704 rfl)) (ok_lf (ok_ALdn d_X5_undo_18 rfl rfl))) (ok_nd (ok_lf (ok_GetR (by decide) (by decide) rfl d_X5_undo_19 q703 rfl)) (ok_lf (ok_CaS su_X5_copyRow d_X5_undo_22 q939 q940 q6 q941 ⟨by decide +kernel, by decide +kernel, by decide +kernel⟩ ⟨by decide, by decide⟩ rfl)))) (ok_nd (ok_nd (ok_lf (ok_ALdn d_X5_undo_25 rfl rfl)) (ok_lf (ok_GetR (by decide) (by decide) rfl d_X5_undo_26 q703 rfl))) (ok_nd (ok_lf (ok_ICst d_X5_undo_29 (by decide) rfl)) (ok_nd (ok_lf (ok_IAL d_X5_undo_30 rfl)) (ok_lf (ok_IRet d_X5_undo_31))))))
noncomputable def S_X5_undo : Sem := lockS (inl P_X5_undo 19 1) 0
theorem su_X5_undo {l : Launch} {G : Gm} : SemU l G yX5_undo (wsOf yX5_undo cX5_undo 1 (some .int)) 2 S_X5_undo := sem_lock (sem_inl 19 (by decide +kernel) rfl ok_X5_undo)
theorem d_X5_tear_0 : decode cX5_tear 0 = .ok (.aload_n 0, 1) := by decide +kernel
theorem d_X5_tear_1 : decode cX5_tear 1 = .ok (.getfield 317, 3) := by decide +kernel
theorem d_X5_tear_4 : decode cX5_tear 4 = .ok (.ifCond .eq 7, 3) := by decide +kernel
theorem d_X5_tear_7 : decode cX5_tear 7 = .ok (.iconst 1, 1) := by decide +kernel
theorem d_X5_tear_8 : decode cX5_tear 8 = .ok (.goto 4, 3) := by decide +kernel
theorem d_X5_tear_11 : decode cX5_tear 11 = .ok (.iconst 0, 1) := by decide +kernel
theorem d_X5_tear_12 : decode cX5_tear 12 = .ok (.istore_n 1, 1) := by decide +kernel
theorem d_X5_tear_13 : decode cX5_tear 13 = .ok (.aload_n 0, 1) := by decide +kernel
theorem d_X5_tear_14 : decode cX5_tear 14 = .ok (.iconst 0, 1) := by decide +kernel
theorem d_X5_tear_15 : decode cX5_tear 15 = .ok (.putfield 317, 3) := by decide +kernel
theorem d_X5_tear_18 : decode cX5_tear 18 = .ok (.iload_n 1, 1) := by decide +kernel
theorem d_X5_tear_19 : decode cX5_tear 19 = .ok (.ireturn, 1) := by decide +kernel
noncomputable def P_X5_tear : Nat → Op := fun pc => nd 12 pc (nd 7 pc (nd 1 pc (lf 0 pc (oALd 0 1)) (nd 4 pc (lf 1 pc (oGetI 5 3 4)) (lf 4 pc (oIfEq 11 7)))) (nd 8 pc (lf 7 pc (oCst 1 8)) (nd 11 pc (lf 8 pc (oGo 12)) (lf 11 pc (oCst 0 12))))) (nd 15 pc (nd 13 pc (lf 12 pc (oISt 1 13)) (nd 14 pc (lf 13 pc (oALd 0 14)) (lf 14 pc (oCst 0 15)))) (nd 18 pc (lf 15 pc (oPutZ 5 3 18)) (nd 19 pc (lf 18 pc (oILd 1 19)) (lf 19 pc (oIRet)))))
theorem ok_X5_tear {l : Launch} {G : Gm} : ∀ pc, OkU (TXm l G (rmD 1) 2 cX5_tear RX5) (RXm l G (rmD 1) 2 cX5_tear RX5 (some .int)) pc (P_X5_tear pc) := fun pc => ok_nd (ok_nd (ok_nd (ok_lf (ok_ALdn d_X5_tear_0 rfl rfl)) (ok_nd (ok_lf (ok_GetI (by decide) (by decide) rfl d_X5_tear_1 q706 rfl)) (ok_lf (ok_IfEq d_X5_tear_4 (by decide) rfl)))) (ok_nd (ok_lf (ok_ICst d_X5_tear_7 (by decide) rfl)) (ok_nd (ok_lf (ok_Go d_X5_tear_8 (by decide))) (ok_lf (ok_ICst d_X5_tear_11 (by decide) rfl))))) (ok_nd (ok_nd (ok_lf (ok_IStn d_X5_tear_12 rfl rfl)) (ok_nd (ok_lf (ok_ALdn d_X5_tear_13 rfl rfl)) (ok_lf (ok_ICst d_X5_tear_14 (by decide) rfl)))) (ok_nd (ok_lf (ok_PutZ (by decide) (by decide) rfl rfl (by decide +kernel) d_X5_tear_15 q706 rfl)) (ok_nd (ok_lf (ok_ILdn d_X5_tear_18 rfl rfl)) (ok_lf (ok_IRet d_X5_tear_19)))))
noncomputable def S_X5_tear : Sem := lockS (inl P_X5_tear 14 2) 0
theorem su_X5_tear {l : Launch} {G : Gm} : SemU l G yX5_tear (wsOf yX5_tear cX5_tear 2 (some .int)) 1 S_X5_tear := sem_lock (sem_inl 14 (by decide +kernel) rfl ok_X5_tear)
theorem d_X5_count_0 : decode cX5_count 0 = .ok (.iconst 0, 1) := by decide +kernel
theorem d_X5_count_1 : decode cX5_count 1 = .ok (.istore_n 2, 1) := by decide +kernel
theorem d_X5_count_2 : decode cX5_count 2 = .ok (.iload_n 1, 1) := by decide +kernel
theorem d_X5_count_3 : decode cX5_count 3 = .ok (.tableswitch 126 0 7 #[45, 52, 59, 65, 72, 78, 83, 90], 45) := by decide +kernel
theorem d_X5_count_48 : decode cX5_count 48 = .ok (.aload_n 0, 1) := by decide +kernel
theorem d_X5_count_49 : decode cX5_count 49 = .ok (.getfield 9, 3) := by decide +kernel
theorem d_X5_count_52 : decode cX5_count 52 = .ok (.iconst 0, 1) := by decide +kernel
theorem d_X5_count_53 : decode cX5_count 53 = .ok (.iaload, 1) := by decide +kernel
theorem d_X5_count_54 : decode cX5_count 54 = .ok (.ireturn, 1) := by decide +kernel
theorem d_X5_count_55 : decode cX5_count 55 = .ok (.aload_n 0, 1) := by decide +kernel
theorem d_X5_count_56 : decode cX5_count 56 = .ok (.getfield 9, 3) := by decide +kernel
theorem d_X5_count_59 : decode cX5_count 59 = .ok (.iconst 1, 1) := by decide +kernel
theorem d_X5_count_60 : decode cX5_count 60 = .ok (.iaload, 1) := by decide +kernel
theorem d_X5_count_61 : decode cX5_count 61 = .ok (.ireturn, 1) := by decide +kernel
theorem d_X5_count_62 : decode cX5_count 62 = .ok (.aload_n 0, 1) := by decide +kernel
theorem d_X5_count_63 : decode cX5_count 63 = .ok (.iconst 3, 1) := by decide +kernel
theorem d_X5_count_64 : decode cX5_count 64 = .ok (.invokevirtual 164, 3) := by decide +kernel
theorem d_X5_count_67 : decode cX5_count 67 = .ok (.ireturn, 1) := by decide +kernel
theorem d_X5_count_68 : decode cX5_count 68 = .ok (.aload_n 0, 1) := by decide +kernel
theorem d_X5_count_69 : decode cX5_count 69 = .ok (.getfield 9, 3) := by decide +kernel
theorem d_X5_count_72 : decode cX5_count 72 = .ok (.iconst 5, 1) := by decide +kernel
theorem d_X5_count_73 : decode cX5_count 73 = .ok (.iaload, 1) := by decide +kernel
theorem d_X5_count_74 : decode cX5_count 74 = .ok (.ireturn, 1) := by decide +kernel
theorem d_X5_count_75 : decode cX5_count 75 = .ok (.aload_n 0, 1) := by decide +kernel
theorem d_X5_count_76 : decode cX5_count 76 = .ok (.iconst 2, 1) := by decide +kernel
theorem d_X5_count_77 : decode cX5_count 77 = .ok (.invokevirtual 164, 3) := by decide +kernel
theorem d_X5_count_80 : decode cX5_count 80 = .ok (.ireturn, 1) := by decide +kernel
theorem d_X5_count_81 : decode cX5_count 81 = .ok (.aload_n 0, 1) := by decide +kernel
theorem d_X5_count_82 : decode cX5_count 82 = .ok (.getfield 224, 3) := by decide +kernel
theorem d_X5_count_85 : decode cX5_count 85 = .ok (.ireturn, 1) := by decide +kernel
theorem d_X5_count_86 : decode cX5_count 86 = .ok (.aload_n 0, 1) := by decide +kernel
theorem d_X5_count_87 : decode cX5_count 87 = .ok (.getfield 9, 3) := by decide +kernel
theorem d_X5_count_90 : decode cX5_count 90 = .ok (.iconst 2, 1) := by decide +kernel
theorem d_X5_count_91 : decode cX5_count 91 = .ok (.iaload, 1) := by decide +kernel
theorem d_X5_count_92 : decode cX5_count 92 = .ok (.ireturn, 1) := by decide +kernel
theorem d_X5_count_93 : decode cX5_count 93 = .ok (.iconst 0, 1) := by decide +kernel
theorem d_X5_count_94 : decode cX5_count 94 = .ok (.istore_n 3, 1) := by decide +kernel
theorem d_X5_count_95 : decode cX5_count 95 = .ok (.iload_n 3, 1) := by decide +kernel
theorem d_X5_count_96 : decode cX5_count 96 = .ok (.bipush 10, 2) := by decide +kernel
theorem d_X5_count_98 : decode cX5_count 98 = .ok (.if_icmp .ge 29, 3) := by decide +kernel
theorem d_X5_count_101 : decode cX5_count 101 = .ok (.iload_n 2, 1) := by decide +kernel
theorem d_X5_count_102 : decode cX5_count 102 = .ok (.aload_n 0, 1) := by decide +kernel
theorem d_X5_count_103 : decode cX5_count 103 = .ok (.getfield 9, 3) := by decide +kernel
theorem d_X5_count_106 : decode cX5_count 106 = .ok (.bipush 12, 2) := by decide +kernel
theorem d_X5_count_108 : decode cX5_count 108 = .ok (.iload_n 3, 1) := by decide +kernel
theorem d_X5_count_109 : decode cX5_count 109 = .ok (.iadd, 1) := by decide +kernel
theorem d_X5_count_110 : decode cX5_count 110 = .ok (.iaload, 1) := by decide +kernel
theorem d_X5_count_111 : decode cX5_count 111 = .ok (.ifCond .ge 7, 3) := by decide +kernel
theorem d_X5_count_114 : decode cX5_count 114 = .ok (.iconst 0, 1) := by decide +kernel
theorem d_X5_count_115 : decode cX5_count 115 = .ok (.goto 4, 3) := by decide +kernel
theorem d_X5_count_118 : decode cX5_count 118 = .ok (.iconst 1, 1) := by decide +kernel
theorem d_X5_count_119 : decode cX5_count 119 = .ok (.iadd, 1) := by decide +kernel
theorem d_X5_count_120 : decode cX5_count 120 = .ok (.istore_n 2, 1) := by decide +kernel
theorem d_X5_count_121 : decode cX5_count 121 = .ok (.iinc 3 1, 3) := by decide +kernel
theorem d_X5_count_124 : decode cX5_count 124 = .ok (.goto (-29), 3) := by decide +kernel
theorem d_X5_count_127 : decode cX5_count 127 = .ok (.iload_n 2, 1) := by decide +kernel
theorem d_X5_count_128 : decode cX5_count 128 = .ok (.ireturn, 1) := by decide +kernel
theorem d_X5_count_129 : decode cX5_count 129 = .ok (.aload_n 0, 1) := by decide +kernel
theorem d_X5_count_130 : decode cX5_count 130 = .ok (.ldc 60, 2) := by decide +kernel
theorem d_X5_count_132 : decode cX5_count 132 = .ok (.invokevirtual 66, 3) := by decide +kernel
theorem d_X5_count_135 : decode cX5_count 135 = .ok (.ireturn, 1) := by decide +kernel
noncomputable def P_X5_count : Nat → Op := fun pc => nd 86 pc (nd 63 pc (nd 53 pc (nd 3 pc (nd 1 pc (lf 0 pc (oCst 0 1)) (nd 2 pc (lf 1 pc (oISt 2 2)) (lf 2 pc (oILd 1 3)))) (nd 49 pc (nd 48 pc (lf 3 pc (oSw [(0, 48), (1, 55), (2, 62), (3, 68), (4, 75), (5, 81), (6, 86), (7, 93)] 129)) (lf 48 pc (oALd 0 49))) (nd 52 pc (lf 49 pc (oGetR 5 0 52)) (lf 52 pc (oCst 0 53))))) (nd 59 pc (nd 55 pc (nd 54 pc (lf 53 pc (oIAL 54)) (lf 54 pc (oIRet))) (nd 56 pc (lf 55 pc (oALd 0 56)) (lf 56 pc (oGetR 5 0 59)))) (nd 61 pc (nd 60 pc (lf 59 pc (oCst 1 60)) (lf 60 pc (oIAL 61))) (nd 62 pc (lf 61 pc (oIRet)) (lf 62 pc (oALd 0 63)))))) (nd 74 pc (nd 68 pc (nd 64 pc (lf 63 pc (oCst 3 64)) (nd 67 pc (lf 64 pc (oCaV 2 5 S_X5_sumOf 67)) (lf 67 pc (oIRet)))) (nd 72 pc (nd 69 pc (lf 68 pc (oALd 0 69)) (lf 69 pc (oGetR 5 0 72))) (nd 73 pc (lf 72 pc (oCst 5 73)) (lf 73 pc (oIAL 74))))) (nd 80 pc (nd 76 pc (nd 75 pc (lf 74 pc (oIRet)) (lf 75 pc (oALd 0 76))) (nd 77 pc (lf 76 pc (oCst 2 77)) (lf 77 pc (oCaV 2 5 S_X5_sumOf 80)))) (nd 82 pc (nd 81 pc (lf 80 pc (oIRet)) (lf 81 pc (oALd 0 82))) (nd 85 pc (lf 82 pc (oGetI 5 8 85)) (lf 85 pc (oIRet))))))) (nd 109 pc (nd 95 pc (nd 91 pc (nd 87 pc (lf 86 pc (oALd 0 87)) (nd 90 pc (lf 87 pc (oGetR 5 0 90)) (lf 90 pc (oCst 2 91)))) (nd 93 pc (nd 92 pc (lf 91 pc (oIAL 92)) (lf 92 pc (oIRet))) (nd 94 pc (lf 93 pc (oCst 0 94)) (lf 94 pc (oISt 3 95))))) (nd 102 pc (nd 98 pc (nd 96 pc (lf 95 pc (lockO (oILd 3 96) 0)) (lf 96 pc (oCst 10 98))) (nd 101 pc (lf 98 pc (oCpLt 101 127)) (lf 101 pc (oILd 2 102)))) (nd 106 pc (nd 103 pc (lf 102 pc (oALd 0 103)) (lf 103 pc (oGetR 5 0 106))) (nd 108 pc (lf 106 pc (oCst 12 108)) (lf 108 pc (oILd 3 109)))))) (nd 121 pc (nd 115 pc (nd 111 pc (nd 110 pc (lf 109 pc (oBin (fun x y => x + y) 110)) (lf 110 pc (oIAL 111))) (nd 114 pc (lf 111 pc (oIfLt 114 118)) (lf 114 pc (oCst 0 115)))) (nd 119 pc (nd 118 pc (lf 115 pc (oGo 119)) (lf 118 pc (oCst 1 119))) (nd 120 pc (lf 119 pc (oBin (fun x y => x + y) 120)) (lf 120 pc (oISt 2 121))))) (nd 129 pc (nd 127 pc (nd 124 pc (lf 121 pc (oInc 3 1 124)) (lf 124 pc (oGo 95))) (nd 128 pc (lf 127 pc (oILd 2 128)) (lf 128 pc (oIRet)))) (nd 132 pc (nd 130 pc (lf 129 pc (oALd 0 130)) (lf 130 pc (oCst (-1000001) 132))) (nd 135 pc (lf 132 pc (oCaV 2 5 S_X5_finding 135)) (lf 135 pc (oIRet)))))))
theorem ok_X5_count {l : Launch} {G : Gm} : ∀ pc, OkU (TXm l G (rmD 4) 4 cX5_count RX5) (RXm l G (rmD 4) 4 cX5_count RX5 (some .int)) pc (P_X5_count pc) := fun pc => ok_nd (ok_nd (ok_nd (ok_nd (ok_nd (ok_lf (ok_ICst d_X5_count_0 (by decide) rfl)) (ok_nd (ok_lf (ok_IStn d_X5_count_1 rfl rfl)) (ok_lf (ok_ILdn d_X5_count_2 rfl rfl)))) (ok_nd (ok_nd (ok_lf (ok_Tab d_X5_count_3 (by decide) (by decide) (by decide) (by decide))) (ok_lf (ok_ALdn d_X5_count_48 rfl rfl))) (ok_nd (ok_lf (ok_GetR (by decide) (by decide) rfl d_X5_count_49 q703 rfl)) (ok_lf (ok_ICst d_X5_count_52 (by decide) rfl))))) (ok_nd (ok_nd (ok_nd (ok_lf (ok_IAL d_X5_count_53 rfl)) (ok_lf (ok_IRet d_X5_count_54))) (ok_nd (ok_lf (ok_ALdn d_X5_count_55 rfl rfl)) (ok_lf (ok_GetR (by decide) (by decide) rfl d_X5_count_56 q703 rfl)))) (ok_nd (ok_nd (ok_lf (ok_ICst d_X5_count_59 (by decide) rfl)) (ok_lf (ok_IAL d_X5_count_60 rfl))) (ok_nd (ok_lf (ok_IRet d_X5_count_61)) (ok_lf (ok_ALdn d_X5_count_62 rfl rfl)))))) (ok_nd (ok_nd (ok_nd (ok_lf (ok_ICst d_X5_count_63 (by decide) rfl)) (ok_nd (ok_lf (ok_CaV su_X5_sumOf (by decide) rfl d_X5_count_64 q915 q917 z75 q6 q918 ⟨by decide +kernel, by decide +kernel, by decide +kernel⟩ ⟨by decide, by decide⟩ rfl)) (ok_lf (ok_IRet d_X5_count_67)))) (ok_nd (ok_nd (ok_lf (ok_ALdn d_X5_count_68 rfl rfl)) (ok_lf (ok_GetR (by decide) (by decide) rfl d_X5_count_69 q703 rfl))) (ok_nd (ok_lf (ok_ICst d_X5_count_72 (by decide) rfl)) (ok_lf (ok_IAL d_X5_count_73 rfl))))) (ok_nd (ok_nd (ok_nd (ok_lf (ok_IRet d_X5_count_74)) (ok_lf (ok_ALdn d_X5_count_75 rfl rfl))) (ok_nd (ok_lf (ok_ICst d_X5_count_76 (by decide) rfl)) (ok_lf (ok_CaV su_X5_sumOf (by decide) rfl d_X5_count_77 q915 q917 z75 q6 q918 ⟨by decide +kernel, by decide +kernel, by decide +kernel⟩ ⟨by decide, by decide⟩ rfl)))) (ok_nd (ok_nd (ok_lf (ok_IRet d_X5_count_80)) (ok_lf (ok_ALdn d_X5_count_81 rfl rfl))) (ok_nd (ok_lf (ok_GetI (by decide) (by decide) rfl d_X5_count_82 q711 rfl)) (ok_lf (ok_IRet d_X5_count_85))))))) (ok_nd (ok_nd (ok_nd (ok_nd (ok_lf (ok_ALdn d_X5_count_86 rfl rfl)) (ok_nd (ok_lf (ok_GetR (by decide) (by decide) rfl d_X5_count_87 q703 rfl)) (ok_lf (ok_ICst d_X5_count_90 (by decide) rfl)))) (ok_nd (ok_nd (ok_lf (ok_IAL d_X5_count_91 rfl)) (ok_lf (ok_IRet d_X5_count_92))) (ok_nd (ok_lf (ok_ICst d_X5_count_93 (by decide) rfl)) (ok_lf (ok_IStn d_X5_count_94 rfl rfl))))) (ok_nd (ok_nd (ok_nd (ok_lf (ok_lk (ok_ILdn d_X5_count_95 rfl rfl))) (ok_lf (ok_BCst d_X5_count_96 (by decide) rfl))) (ok_nd (ok_lf (ok_CpGe d_X5_count_98 (by decide) rfl)) (ok_lf (ok_ILdn d_X5_count_101 rfl rfl)))) (ok_nd (ok_nd (ok_lf (ok_ALdn d_X5_count_102 rfl rfl)) (ok_lf (ok_GetR (by decide) (by decide) rfl d_X5_count_103 q703 rfl))) (ok_nd (ok_lf (ok_BCst d_X5_count_106 (by decide) rfl)) (ok_lf (ok_ILdn d_X5_count_108 rfl rfl)))))) (ok_nd (ok_nd (ok_nd (ok_nd (ok_lf (ok_iadd d_X5_count_109 rfl)) (ok_lf (ok_IAL d_X5_count_110 rfl))) (ok_nd (ok_lf (ok_IfGe d_X5_count_111 (by decide) rfl)) (ok_lf (ok_ICst d_X5_count_114 (by decide) rfl)))) (ok_nd (ok_nd (ok_lf (ok_Go d_X5_count_115 (by decide))) (ok_lf (ok_ICst d_X5_count_118 (by decide) rfl))) (ok_nd (ok_lf (ok_iadd d_X5_count_119 rfl)) (ok_lf (ok_IStn d_X5_count_120 rfl rfl))))) (ok_nd (ok_nd (ok_nd (ok_lf (ok_Inc d_X5_count_121 (by decide) rfl)) (ok_lf (ok_Go d_X5_count_124 (by decide)))) (ok_nd (ok_lf (ok_ILdn d_X5_count_127 rfl rfl)) (ok_lf (ok_IRet d_X5_count_128)))) (ok_nd (ok_nd (ok_lf (ok_ALdn d_X5_count_129 rfl rfl)) (ok_lf (ok_Ldc d_X5_count_130 q781 rfl))) (ok_nd (ok_lf (ok_CaV su_X5_finding (by decide) rfl d_X5_count_132 q782 q784 z56 q6 q785 ⟨by decide +kernel, by decide +kernel, by decide +kernel⟩ ⟨by decide, by decide⟩ rfl)) (ok_lf (ok_IRet d_X5_count_135)))))))
noncomputable def S_X5_count : Sem := lockS (inl P_X5_count 30000 4) 0
theorem su_X5_count {l : Launch} {G : Gm} : SemU l G yX5_count (wsOf yX5_count cX5_count 4 (some .int)) 4 S_X5_count := sem_lock (sem_inl 30000 (by decide +kernel) rfl ok_X5_count)
theorem d_X5_status_0 : decode cX5_status 0 = .ok (.iload_n 1, 1) := by decide +kernel
theorem d_X5_status_1 : decode cX5_status 1 = .ok (.iconst (-1), 1) := by decide +kernel
theorem d_X5_status_2 : decode cX5_status 2 = .ok (.bipush 6, 2) := by decide +kernel
theorem d_X5_status_4 : decode cX5_status 4 = .ok (.invokestatic 70, 3) := by decide +kernel
theorem d_X5_status_7 : decode cX5_status 7 = .ok (.ifCond .eq 14, 3) := by decide +kernel
theorem d_X5_status_10 : decode cX5_status 10 = .ok (.aload_n 0, 1) := by decide +kernel
theorem d_X5_status_11 : decode cX5_status 11 = .ok (.getfield 19, 3) := by decide +kernel
theorem d_X5_status_14 : decode cX5_status 14 = .ok (.iload_n 1, 1) := by decide +kernel
theorem d_X5_status_15 : decode cX5_status 15 = .ok (.iconst 1, 1) := by decide +kernel
theorem d_X5_status_16 : decode cX5_status 16 = .ok (.iadd, 1) := by decide +kernel
theorem d_X5_status_17 : decode cX5_status 17 = .ok (.iaload, 1) := by decide +kernel
theorem d_X5_status_18 : decode cX5_status 18 = .ok (.goto 9, 3) := by decide +kernel
theorem d_X5_status_21 : decode cX5_status 21 = .ok (.aload_n 0, 1) := by decide +kernel
theorem d_X5_status_22 : decode cX5_status 22 = .ok (.ldc 60, 2) := by decide +kernel
theorem d_X5_status_24 : decode cX5_status 24 = .ok (.invokevirtual 66, 3) := by decide +kernel
theorem d_X5_status_27 : decode cX5_status 27 = .ok (.ireturn, 1) := by decide +kernel
noncomputable def P_X5_status : Nat → Op := fun pc => nd 15 pc (nd 7 pc (nd 2 pc (nd 1 pc (lf 0 pc (oILd 1 1)) (lf 1 pc (oCst (-1) 2))) (nd 4 pc (lf 2 pc (oCst 6 4)) (lf 4 pc (oCaS 3 S_X5_within 7)))) (nd 11 pc (nd 10 pc (lf 7 pc (oIfEq 21 10)) (lf 10 pc (oALd 0 11))) (nd 14 pc (lf 11 pc (oGetR 5 4 14)) (lf 14 pc (oILd 1 15))))) (nd 21 pc (nd 17 pc (nd 16 pc (lf 15 pc (oCst 1 16)) (lf 16 pc (oBin (fun x y => x + y) 17))) (nd 18 pc (lf 17 pc (oIAL 18)) (lf 18 pc (oGo 27)))) (nd 24 pc (nd 22 pc (lf 21 pc (oALd 0 22)) (lf 22 pc (oCst (-1000001) 24))) (nd 27 pc (lf 24 pc (oCaV 2 5 S_X5_finding 27)) (lf 27 pc (oIRet)))))
theorem ok_X5_status {l : Launch} {G : Gm} : ∀ pc, OkU (TXm l G (rmD 2) 2 cX5_status RX5) (RXm l G (rmD 2) 2 cX5_status RX5 (some .int)) pc (P_X5_status pc) := fun pc => ok_nd (ok_nd (ok_nd (ok_nd (ok_lf (ok_ILdn d_X5_status_0 rfl rfl)) (ok_lf (ok_ICst d_X5_status_1 (by decide) rfl))) (ok_nd (ok_lf (ok_BCst d_X5_status_2 (by decide) rfl)) (ok_lf (ok_CaS su_X5_within d_X5_status_4 q774 q775 q6 q776 ⟨by decide +kernel, by decide +kernel, by decide +kernel⟩ ⟨by decide, by decide⟩ rfl)))) (ok_nd (ok_nd (ok_lf (ok_IfEq d_X5_status_7 (by decide) rfl)) (ok_lf (ok_ALdn d_X5_status_10 rfl rfl))) (ok_nd (ok_lf (ok_GetR (by decide) (by decide) rfl d_X5_status_11 q707 rfl)) (ok_lf (ok_ILdn d_X5_status_14 rfl rfl))))) (ok_nd (ok_nd (ok_nd (ok_lf (ok_ICst d_X5_status_15 (by decide) rfl)) (ok_lf (ok_iadd d_X5_status_16 rfl))) (ok_nd (ok_lf (ok_IAL d_X5_status_17 rfl)) (ok_lf (ok_Go d_X5_status_18 (by decide))))) (ok_nd (ok_nd (ok_lf (ok_ALdn d_X5_status_21 rfl rfl)) (ok_lf (ok_Ldc d_X5_status_22 q781 rfl))) (ok_nd (ok_lf (ok_CaV su_X5_finding (by decide) rfl d_X5_status_24 q782 q784 z56 q6 q785 ⟨by decide +kernel, by decide +kernel, by decide +kernel⟩ ⟨by decide, by decide⟩ rfl)) (ok_lf (ok_IRet d_X5_status_27)))))
noncomputable def S_X5_status : Sem := lockS (inl P_X5_status 18 2) 0
theorem su_X5_status {l : Launch} {G : Gm} : SemU l G yX5_status (wsOf yX5_status cX5_status 2 (some .int)) 2 S_X5_status := sem_lock (sem_inl 18 (by decide +kernel) rfl ok_X5_status)
