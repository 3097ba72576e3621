theorem d_X3_isLetter_0 : decode cX3_isLetter 0 = .ok (.iload_n 0, 1) := by decide +kernel
theorem d_X3_isLetter_1 : decode cX3_isLetter 1 = .ok (.bipush 97, 2) := by decide +kernel
theorem d_X3_isLetter_3 : decode cX3_isLetter 3 = .ok (.if_icmp .lt 13, 3) := by decide +kernel
theorem d_X3_isLetter_6 : decode cX3_isLetter 6 = .ok (.iload_n 0, 1) := by decide +kernel
theorem d_X3_isLetter_7 : decode cX3_isLetter 7 = .ok (.bipush 122, 2) := by decide +kernel
theorem d_X3_isLetter_9 : decode cX3_isLetter 9 = .ok (.if_icmp .gt 7, 3) := by decide +kernel
theorem d_X3_isLetter_12 : decode cX3_isLetter 12 = .ok (.iconst 1, 1) := by decide +kernel
theorem d_X3_isLetter_13 : decode cX3_isLetter 13 = .ok (.goto 4, 3) := by decide +kernel
theorem d_X3_isLetter_16 : decode cX3_isLetter 16 = .ok (.iconst 0, 1) := by decide +kernel
theorem d_X3_isLetter_17 : decode cX3_isLetter 17 = .ok (.ireturn, 1) := by decide +kernel
noncomputable def P_X3_isLetter : Nat → Op := fun pc => nd 9 pc (nd 3 pc (nd 1 pc (lf 0 pc (oILd 0 1)) (lf 1 pc (oCst 97 3))) (nd 6 pc (lf 3 pc (oCpLt 16 6)) (nd 7 pc (lf 6 pc (oILd 0 7)) (lf 7 pc (oCst 122 9))))) (nd 13 pc (nd 12 pc (lf 9 pc (oCpGt 16 12)) (lf 12 pc (oCst 1 13))) (nd 16 pc (lf 13 pc (oGo 17)) (nd 17 pc (lf 16 pc (oCst 0 17)) (lf 17 pc (oZRet)))))
theorem ok_X3_isLetter {l : Launch} {G : Gm} : ∀ pc, OkU (TXm l G (rmD 1) 1 cX3_isLetter RX3) (RXm l G (rmD 1) 1 cX3_isLetter RX3 (some .boolean)) pc (P_X3_isLetter pc) := fun pc => ok_nd (ok_nd (ok_nd (ok_lf (ok_ILdn d_X3_isLetter_0 rfl rfl)) (ok_lf (ok_BCst d_X3_isLetter_1 (by decide) rfl))) (ok_nd (ok_lf (ok_CpLt d_X3_isLetter_3 (by decide) rfl)) (ok_nd (ok_lf (ok_ILdn d_X3_isLetter_6 rfl rfl)) (ok_lf (ok_BCst d_X3_isLetter_7 (by decide) rfl))))) (ok_nd (ok_nd (ok_lf (ok_CpGt d_X3_isLetter_9 (by decide) rfl)) (ok_lf (ok_ICst d_X3_isLetter_12 (by decide) rfl))) (ok_nd (ok_lf (ok_Go d_X3_isLetter_13 (by decide))) (ok_nd (ok_lf (ok_ICst d_X3_isLetter_16 (by decide) rfl)) (ok_lf (ok_ZRet d_X3_isLetter_17)))))
noncomputable def S_X3_isLetter : Sem := inl P_X3_isLetter 12 1
theorem su_X3_isLetter {l : Launch} {G : Gm} : SemU l G yX3_isLetter (wsOf yX3_isLetter cX3_isLetter 1 (some .boolean)) 1 S_X3_isLetter := sem_inl 12 (by decide +kernel) rfl ok_X3_isLetter
theorem d_X3_isDigit_0 : decode cX3_isDigit 0 = .ok (.iload_n 0, 1) := by decide +kernel
theorem d_X3_isDigit_1 : decode cX3_isDigit 1 = .ok (.bipush 48, 2) := by decide +kernel
theorem d_X3_isDigit_3 : decode cX3_isDigit 3 = .ok (.if_icmp .lt 13, 3) := by decide +kernel
theorem d_X3_isDigit_6 : decode cX3_isDigit 6 = .ok (.iload_n 0, 1) := by decide +kernel
theorem d_X3_isDigit_7 : decode cX3_isDigit 7 = .ok (.bipush 57, 2) := by decide +kernel
theorem d_X3_isDigit_9 : decode cX3_isDigit 9 = .ok (.if_icmp .gt 7, 3) := by decide +kernel
theorem d_X3_isDigit_12 : decode cX3_isDigit 12 = .ok (.iconst 1, 1) := by decide +kernel
theorem d_X3_isDigit_13 : decode cX3_isDigit 13 = .ok (.goto 4, 3) := by decide +kernel
theorem d_X3_isDigit_16 : decode cX3_isDigit 16 = .ok (.iconst 0, 1) := by decide +kernel
theorem d_X3_isDigit_17 : decode cX3_isDigit 17 = .ok (.ireturn, 1) := by decide +kernel
noncomputable def P_X3_isDigit : Nat → Op := fun pc => nd 9 pc (nd 3 pc (nd 1 pc (lf 0 pc (oILd 0 1)) (lf 1 pc (oCst 48 3))) (nd 6 pc (lf 3 pc (oCpLt 16 6)) (nd 7 pc (lf 6 pc (oILd 0 7)) (lf 7 pc (oCst 57 9))))) (nd 13 pc (nd 12 pc (lf 9 pc (oCpGt 16 12)) (lf 12 pc (oCst 1 13))) (nd 16 pc (lf 13 pc (oGo 17)) (nd 17 pc (lf 16 pc (oCst 0 17)) (lf 17 pc (oZRet)))))
theorem ok_X3_isDigit {l : Launch} {G : Gm} : ∀ pc, OkU (TXm l G (rmD 1) 1 cX3_isDigit RX3) (RXm l G (rmD 1) 1 cX3_isDigit RX3 (some .boolean)) pc (P_X3_isDigit pc) := fun pc => ok_nd (ok_nd (ok_nd (ok_lf (ok_ILdn d_X3_isDigit_0 rfl rfl)) (ok_lf (ok_BCst d_X3_isDigit_1 (by decide) rfl))) (ok_nd (ok_lf (ok_CpLt d_X3_isDigit_3 (by decide) rfl)) (ok_nd (ok_lf (ok_ILdn d_X3_isDigit_6 rfl rfl)) (ok_lf (ok_BCst d_X3_isDigit_7 (by decide) rfl))))) (ok_nd (ok_nd (ok_lf (ok_CpGt d_X3_isDigit_9 (by decide) rfl)) (ok_lf (ok_ICst d_X3_isDigit_12 (by decide) rfl))) (ok_nd (ok_lf (ok_Go d_X3_isDigit_13 (by decide))) (ok_nd (ok_lf (ok_ICst d_X3_isDigit_16 (by decide) rfl)) (ok_lf (ok_ZRet d_X3_isDigit_17)))))
noncomputable def S_X3_isDigit : Sem := inl P_X3_isDigit 12 1
theorem su_X3_isDigit {l : Launch} {G : Gm} : SemU l G yX3_isDigit (wsOf yX3_isDigit cX3_isDigit 1 (some .boolean)) 1 S_X3_isDigit := sem_inl 12 (by decide +kernel) rfl ok_X3_isDigit
theorem d_X3_append_0 : decode cX3_append 0 = .ok (.aload_n 0, 1) := by decide +kernel
theorem d_X3_append_1 : decode cX3_append 1 = .ok (.getfield 9, 3) := by decide +kernel
theorem d_X3_append_4 : decode cX3_append 4 = .ok (.aload_n 0, 1) := by decide +kernel
theorem d_X3_append_5 : decode cX3_append 5 = .ok (.getfield 15, 3) := by decide +kernel
theorem d_X3_append_8 : decode cX3_append 8 = .ok (.iload_n 1, 1) := by decide +kernel
theorem d_X3_append_9 : decode cX3_append 9 = .ok (.iastore, 1) := by decide +kernel
theorem d_X3_append_10 : decode cX3_append 10 = .ok (.aload_n 0, 1) := by decide +kernel
theorem d_X3_append_11 : decode cX3_append 11 = .ok (.dup, 1) := by decide +kernel
theorem d_X3_append_12 : decode cX3_append 12 = .ok (.getfield 15, 3) := by decide +kernel
theorem d_X3_append_15 : decode cX3_append 15 = .ok (.iconst 1, 1) := by decide +kernel
theorem d_X3_append_16 : decode cX3_append 16 = .ok (.iadd, 1) := by decide +kernel
theorem d_X3_append_17 : decode cX3_append 17 = .ok (.putfield 15, 3) := by decide +kernel
theorem d_X3_append_20 : decode cX3_append 20 = .ok (.return_, 1) := by decide +kernel
noncomputable def P_X3_append : Nat → Op := fun pc => nd 10 pc (nd 5 pc (nd 1 pc (lf 0 pc (oALd 0 1)) (nd 4 pc (lf 1 pc (oGetR 3 0 4)) (lf 4 pc (oALd 0 5)))) (nd 8 pc (lf 5 pc (oGetI 3 1 8)) (nd 9 pc (lf 8 pc (oILd 1 9)) (lf 9 pc (oIAS 10))))) (nd 15 pc (nd 11 pc (lf 10 pc (oALd 0 11)) (nd 12 pc (lf 11 pc (oDup 12)) (lf 12 pc (oGetI 3 1 15)))) (nd 17 pc (nd 16 pc (lf 15 pc (oCst 1 16)) (lf 16 pc (oBin (fun x y => x + y) 17))) (nd 20 pc (lf 17 pc (oPutI 3 1 20)) (lf 20 pc (oVRet)))))
theorem ok_X3_append {l : Launch} {G : Gm} : ∀ pc, OkU (TXm l G (rmD 1) 2 cX3_append RX3) (RXm l G (rmD 1) 2 cX3_append RX3 none) pc (P_X3_append pc) := fun pc => ok_nd (ok_nd (ok_nd (ok_lf (ok_ALdn d_X3_append_0 rfl rfl)) (ok_nd (ok_lf (ok_GetR (by decide) (by decide) rfl d_X3_append_1 q114 rfl)) (ok_lf (ok_ALdn d_X3_append_4 rfl rfl)))) (ok_nd (ok_lf (ok_GetI (by decide) (by decide) rfl d_X3_append_5 q115 rfl)) (ok_nd (ok_lf (ok_ILdn d_X3_append_8 rfl rfl)) (ok_lf (ok_IAS d_X3_append_9 rfl))))) (ok_nd (ok_nd (ok_lf (ok_ALdn d_X3_append_10 rfl rfl)) (ok_nd (ok_lf (ok_Dup d_X3_append_11 rfl)) (ok_lf (ok_GetI (by decide) (by decide) rfl d_X3_append_12 q115 rfl)))) (ok_nd (ok_nd (ok_lf (ok_ICst d_X3_append_15 (by decide) rfl)) (ok_lf (ok_iadd d_X3_append_16 rfl))) (ok_nd (ok_lf (ok_PutI (by decide) (by decide) rfl rfl (by decide +kernel) d_X3_append_17 q115 rfl)) (ok_lf (ok_VRet d_X3_append_20)))))
noncomputable def S_X3_append : Sem := lockS (inl P_X3_append 15 2) 0
theorem su_X3_append {l : Launch} {G : Gm} : SemU l G yX3_append (wsOf yX3_append cX3_append 2 none) 1 S_X3_append := sem_lock (sem_inl 15 (by decide +kernel) rfl ok_X3_append)
theorem d_X3_step_0 : decode cX3_step 0 = .ok (.aload_n 0, 1) := by decide +kernel
theorem d_X3_step_1 : decode cX3_step 1 = .ok (.aload_n 0, 1) := by decide +kernel
theorem d_X3_step_2 : decode cX3_step 2 = .ok (.getfield 25, 3) := by decide +kernel
theorem d_X3_step_5 : decode cX3_step 5 = .ok (.putfield 22, 3) := by decide +kernel
theorem d_X3_step_8 : decode cX3_step 8 = .ok (.aload_n 0, 1) := by decide +kernel
theorem d_X3_step_9 : decode cX3_step 9 = .ok (.getfield 22, 3) := by decide +kernel
theorem d_X3_step_12 : decode cX3_step 12 = .ok (.aload_n 0, 1) := by decide +kernel
theorem d_X3_step_13 : decode cX3_step 13 = .ok (.getfield 15, 3) := by decide +kernel
theorem d_X3_step_16 : decode cX3_step 16 = .ok (.if_icmp .ge 30, 3) := by decide +kernel
theorem d_X3_step_19 : decode cX3_step 19 = .ok (.aload_n 0, 1) := by decide +kernel
theorem d_X3_step_20 : decode cX3_step 20 = .ok (.getfield 9, 3) := by decide +kernel
theorem d_X3_step_23 : decode cX3_step 23 = .ok (.aload_n 0, 1) := by decide +kernel
theorem d_X3_step_24 : decode cX3_step 24 = .ok (.getfield 22, 3) := by decide +kernel
theorem d_X3_step_27 : decode cX3_step 27 = .ok (.iaload, 1) := by decide +kernel
theorem d_X3_step_28 : decode cX3_step 28 = .ok (.bipush 32, 2) := by decide +kernel
theorem d_X3_step_30 : decode cX3_step 30 = .ok (.if_icmp .ne 16, 3) := by decide +kernel
theorem d_X3_step_33 : decode cX3_step 33 = .ok (.aload_n 0, 1) := by decide +kernel
theorem d_X3_step_34 : decode cX3_step 34 = .ok (.dup, 1) := by decide +kernel
theorem d_X3_step_35 : decode cX3_step 35 = .ok (.getfield 22, 3) := by decide +kernel
theorem d_X3_step_38 : decode cX3_step 38 = .ok (.iconst 1, 1) := by decide +kernel
theorem d_X3_step_39 : decode cX3_step 39 = .ok (.iadd, 1) := by decide +kernel
theorem d_X3_step_40 : decode cX3_step 40 = .ok (.putfield 22, 3) := by decide +kernel
theorem d_X3_step_43 : decode cX3_step 43 = .ok (.goto (-35), 3) := by decide +kernel
theorem d_X3_step_46 : decode cX3_step 46 = .ok (.aload_n 0, 1) := by decide +kernel
theorem d_X3_step_47 : decode cX3_step 47 = .ok (.aload_n 0, 1) := by decide +kernel
theorem d_X3_step_48 : decode cX3_step 48 = .ok (.getfield 22, 3) := by decide +kernel
theorem d_X3_step_51 : decode cX3_step 51 = .ok (.putfield 25, 3) := by decide +kernel
theorem d_X3_step_54 : decode cX3_step 54 = .ok (.aload_n 0, 1) := by decide +kernel
theorem d_X3_step_55 : decode cX3_step 55 = .ok (.getfield 22, 3) := by decide +kernel
theorem d_X3_step_58 : decode cX3_step 58 = .ok (.aload_n 0, 1) := by decide +kernel
theorem d_X3_step_59 : decode cX3_step 59 = .ok (.getfield 15, 3) := by decide +kernel
theorem d_X3_step_62 : decode cX3_step 62 = .ok (.if_icmp .lt 11, 3) := by decide +kernel
theorem d_X3_step_65 : decode cX3_step 65 = .ok (.aload_n 0, 1) := by decide +kernel
theorem d_X3_step_66 : decode cX3_step 66 = .ok (.iconst 0, 1) := by decide +kernel
theorem d_X3_step_67 : decode cX3_step 67 = .ok (.putfield 19, 3) := by decide +kernel
theorem d_X3_step_70 : decode cX3_step 70 = .ok (.goto 189, 3) := by decide +kernel
theorem d_X3_step_73 : decode cX3_step 73 = .ok (.aload_n 0, 1) := by decide +kernel
theorem d_X3_step_74 : decode cX3_step 74 = .ok (.getfield 9, 3) := by decide +kernel
theorem d_X3_step_77 : decode cX3_step 77 = .ok (.aload_n 0, 1) := by decide +kernel
theorem d_X3_step_78 : decode cX3_step 78 = .ok (.getfield 22, 3) := by decide +kernel
theorem d_X3_step_81 : decode cX3_step 81 = .ok (.iaload, 1) := by decide +kernel
theorem d_X3_step_82 : decode cX3_step 82 = .ok (.invokestatic 127, 3) := by decide +kernel
theorem d_X3_step_85 : decode cX3_step 85 = .ok (.ifCond .eq 47, 3) := by decide +kernel
theorem d_X3_step_88 : decode cX3_step 88 = .ok (.aload_n 0, 1) := by decide +kernel
theorem d_X3_step_89 : decode cX3_step 89 = .ok (.iconst 1, 1) := by decide +kernel
theorem d_X3_step_90 : decode cX3_step 90 = .ok (.putfield 19, 3) := by decide +kernel
theorem d_X3_step_93 : decode cX3_step 93 = .ok (.aload_n 0, 1) := by decide +kernel
theorem d_X3_step_94 : decode cX3_step 94 = .ok (.getfield 25, 3) := by decide +kernel
theorem d_X3_step_97 : decode cX3_step 97 = .ok (.aload_n 0, 1) := by decide +kernel
theorem d_X3_step_98 : decode cX3_step 98 = .ok (.getfield 15, 3) := by decide +kernel
theorem d_X3_step_101 : decode cX3_step 101 = .ok (.if_icmp .ge 158, 3) := by decide +kernel
theorem d_X3_step_104 : decode cX3_step 104 = .ok (.aload_n 0, 1) := by decide +kernel
theorem d_X3_step_105 : decode cX3_step 105 = .ok (.getfield 9, 3) := by decide +kernel
theorem d_X3_step_108 : decode cX3_step 108 = .ok (.aload_n 0, 1) := by decide +kernel
theorem d_X3_step_109 : decode cX3_step 109 = .ok (.getfield 25, 3) := by decide +kernel
theorem d_X3_step_112 : decode cX3_step 112 = .ok (.iaload, 1) := by decide +kernel
theorem d_X3_step_113 : decode cX3_step 113 = .ok (.invokestatic 127, 3) := by decide +kernel
theorem d_X3_step_116 : decode cX3_step 116 = .ok (.ifCond .eq 143, 3) := by decide +kernel
theorem d_X3_step_119 : decode cX3_step 119 = .ok (.aload_n 0, 1) := by decide +kernel
theorem d_X3_step_120 : decode cX3_step 120 = .ok (.dup, 1) := by decide +kernel
theorem d_X3_step_121 : decode cX3_step 121 = .ok (.getfield 25, 3) := by decide +kernel
theorem d_X3_step_124 : decode cX3_step 124 = .ok (.iconst 1, 1) := by decide +kernel
theorem d_X3_step_125 : decode cX3_step 125 = .ok (.iadd, 1) := by decide +kernel
theorem d_X3_step_126 : decode cX3_step 126 = .ok (.putfield 25, 3) := by decide +kernel
theorem d_X3_step_129 : decode cX3_step 129 = .ok (.goto (-36), 3) := by decide +kernel
theorem d_X3_step_132 : decode cX3_step 132 = .ok (.aload_n 0, 1) := by decide +kernel
theorem d_X3_step_133 : decode cX3_step 133 = .ok (.getfield 9, 3) := by decide +kernel
theorem d_X3_step_136 : decode cX3_step 136 = .ok (.aload_n 0, 1) := by decide +kernel
theorem d_X3_step_137 : decode cX3_step 137 = .ok (.getfield 22, 3) := by decide +kernel
theorem d_X3_step_140 : decode cX3_step 140 = .ok (.iaload, 1) := by decide +kernel
theorem d_X3_step_141 : decode cX3_step 141 = .ok (.invokestatic 131, 3) := by decide +kernel
theorem d_X3_step_144 : decode cX3_step 144 = .ok (.ifCond .eq 82, 3) := by decide +kernel
theorem d_X3_step_147 : decode cX3_step 147 = .ok (.aload_n 0, 1) := by decide +kernel
theorem d_X3_step_148 : decode cX3_step 148 = .ok (.iconst 2, 1) := by decide +kernel
theorem d_X3_step_149 : decode cX3_step 149 = .ok (.putfield 19, 3) := by decide +kernel
theorem d_X3_step_152 : decode cX3_step 152 = .ok (.aload_n 0, 1) := by decide +kernel
theorem d_X3_step_153 : decode cX3_step 153 = .ok (.iconst 0, 1) := by decide +kernel
theorem d_X3_step_154 : decode cX3_step 154 = .ok (.putfield 28, 3) := by decide +kernel
theorem d_X3_step_157 : decode cX3_step 157 = .ok (.aload_n 0, 1) := by decide +kernel
theorem d_X3_step_158 : decode cX3_step 158 = .ok (.getfield 25, 3) := by decide +kernel
theorem d_X3_step_161 : decode cX3_step 161 = .ok (.aload_n 0, 1) := by decide +kernel
theorem d_X3_step_162 : decode cX3_step 162 = .ok (.getfield 15, 3) := by decide +kernel
theorem d_X3_step_165 : decode cX3_step 165 = .ok (.if_icmp .ge 94, 3) := by decide +kernel
theorem d_X3_step_168 : decode cX3_step 168 = .ok (.aload_n 0, 1) := by decide +kernel
theorem d_X3_step_169 : decode cX3_step 169 = .ok (.getfield 9, 3) := by decide +kernel
theorem d_X3_step_172 : decode cX3_step 172 = .ok (.aload_n 0, 1) := by decide +kernel
theorem d_X3_step_173 : decode cX3_step 173 = .ok (.getfield 25, 3) := by decide +kernel
theorem d_X3_step_176 : decode cX3_step 176 = .ok (.iaload, 1) := by decide +kernel
theorem d_X3_step_177 : decode cX3_step 177 = .ok (.invokestatic 131, 3) := by decide +kernel
theorem d_X3_step_180 : decode cX3_step 180 = .ok (.ifCond .eq 79, 3) := by decide +kernel
theorem d_X3_step_183 : decode cX3_step 183 = .ok (.aload_n 0, 1) := by decide +kernel
theorem d_X3_step_184 : decode cX3_step 184 = .ok (.bipush 10, 2) := by decide +kernel
theorem d_X3_step_186 : decode cX3_step 186 = .ok (.aload_n 0, 1) := by decide +kernel
theorem d_X3_step_187 : decode cX3_step 187 = .ok (.getfield 28, 3) := by decide +kernel
theorem d_X3_step_190 : decode cX3_step 190 = .ok (.imul, 1) := by decide +kernel
theorem d_X3_step_191 : decode cX3_step 191 = .ok (.aload_n 0, 1) := by decide +kernel
theorem d_X3_step_192 : decode cX3_step 192 = .ok (.getfield 9, 3) := by decide +kernel
theorem d_X3_step_195 : decode cX3_step 195 = .ok (.aload_n 0, 1) := by decide +kernel
theorem d_X3_step_196 : decode cX3_step 196 = .ok (.getfield 25, 3) := by decide +kernel
theorem d_X3_step_199 : decode cX3_step 199 = .ok (.iaload, 1) := by decide +kernel
theorem d_X3_step_200 : decode cX3_step 200 = .ok (.iadd, 1) := by decide +kernel
theorem d_X3_step_201 : decode cX3_step 201 = .ok (.bipush 48, 2) := by decide +kernel
theorem d_X3_step_203 : decode cX3_step 203 = .ok (.isub, 1) := by decide +kernel
theorem d_X3_step_204 : decode cX3_step 204 = .ok (.sipush 1000, 3) := by decide +kernel
theorem d_X3_step_207 : decode cX3_step 207 = .ok (.invokestatic 134, 3) := by decide +kernel
theorem d_X3_step_210 : decode cX3_step 210 = .ok (.putfield 28, 3) := by decide +kernel
theorem d_X3_step_213 : decode cX3_step 213 = .ok (.aload_n 0, 1) := by decide +kernel
theorem d_X3_step_214 : decode cX3_step 214 = .ok (.dup, 1) := by decide +kernel
theorem d_X3_step_215 : decode cX3_step 215 = .ok (.getfield 25, 3) := by decide +kernel
theorem d_X3_step_218 : decode cX3_step 218 = .ok (.iconst 1, 1) := by decide +kernel
theorem d_X3_step_219 : decode cX3_step 219 = .ok (.iadd, 1) := by decide +kernel
theorem d_X3_step_220 : decode cX3_step 220 = .ok (.putfield 25, 3) := by decide +kernel
theorem d_X3_step_223 : decode cX3_step 223 = .ok (.goto (-66), 3) := by decide +kernel
theorem d_X3_step_226 : decode cX3_step 226 = .ok (.aload_n 0, 1) := by decide +kernel
theorem d_X3_step_227 : decode cX3_step 227 = .ok (.aload_n 0, 1) := by decide +kernel
theorem d_X3_step_228 : decode cX3_step 228 = .ok (.getfield 9, 3) := by decide +kernel
theorem d_X3_step_231 : decode cX3_step 231 = .ok (.aload_n 0, 1) := by decide +kernel
theorem d_X3_step_232 : decode cX3_step 232 = .ok (.getfield 22, 3) := by decide +kernel
theorem d_X3_step_235 : decode cX3_step 235 = .ok (.iaload, 1) := by decide +kernel
theorem d_X3_step_236 : decode cX3_step 236 = .ok (.bipush 59, 2) := by decide +kernel
theorem d_X3_step_238 : decode cX3_step 238 = .ok (.if_icmp .ne 7, 3) := by decide +kernel
theorem d_X3_step_241 : decode cX3_step 241 = .ok (.iconst 3, 1) := by decide +kernel
theorem d_X3_step_242 : decode cX3_step 242 = .ok (.goto 4, 3) := by decide +kernel
theorem d_X3_step_245 : decode cX3_step 245 = .ok (.iconst 4, 1) := by decide +kernel
theorem d_X3_step_246 : decode cX3_step 246 = .ok (.putfield 19, 3) := by decide +kernel
theorem d_X3_step_249 : decode cX3_step 249 = .ok (.aload_n 0, 1) := by decide +kernel
theorem d_X3_step_250 : decode cX3_step 250 = .ok (.dup, 1) := by decide +kernel
theorem d_X3_step_251 : decode cX3_step 251 = .ok (.getfield 25, 3) := by decide +kernel
theorem d_X3_step_254 : decode cX3_step 254 = .ok (.iconst 1, 1) := by decide +kernel
theorem d_X3_step_255 : decode cX3_step 255 = .ok (.iadd, 1) := by decide +kernel
theorem d_X3_step_256 : decode cX3_step 256 = .ok (.putfield 25, 3) := by decide +kernel
theorem d_X3_step_259 : decode cX3_step 259 = .ok (.return_, 1) := by decide +kernel
noncomputable def P_X3_step : Nat → Op := fun pc => nd 133 pc (nd 66 pc (nd 33 pc (nd 16 pc (nd 8 pc (nd 2 pc (nd 1 pc (lf 0 pc (oALd 0 1)) (lf 1 pc (oALd 0 2))) (nd 5 pc (lf 2 pc (oGetI 3 4 5)) (lf 5 pc (oPutI 3 3 8)))) (nd 12 pc (nd 9 pc (lf 8 pc (lockO (oALd 0 9) 0)) (lf 9 pc (oGetI 3 3 12))) (nd 13 pc (lf 12 pc (oALd 0 13)) (lf 13 pc (oGetI 3 1 16))))) (nd 24 pc (nd 20 pc (nd 19 pc (lf 16 pc (oCpLt 19 46)) (lf 19 pc (oALd 0 20))) (nd 23 pc (lf 20 pc (oGetR 3 0 23)) (lf 23 pc (oALd 0 24)))) (nd 28 pc (nd 27 pc (lf 24 pc (oGetI 3 3 27)) (lf 27 pc (oIAL 28))) (nd 30 pc (lf 28 pc (oCst 32 30)) (lf 30 pc (oCpEq 33 46)))))) (nd 47 pc (nd 39 pc (nd 35 pc (nd 34 pc (lf 33 pc (oALd 0 34)) (lf 34 pc (oDup 35))) (nd 38 pc (lf 35 pc (oGetI 3 3 38)) (lf 38 pc (oCst 1 39)))) (nd 43 pc (nd 40 pc (lf 39 pc (oBin (fun x y => x + y) 40)) (lf 40 pc (oPutI 3 3 43))) (nd 46 pc (lf 43 pc (oGo 8)) (lf 46 pc (oALd 0 47))))) (nd 55 pc (nd 51 pc (nd 48 pc (lf 47 pc (oALd 0 48)) (lf 48 pc (oGetI 3 3 51))) (nd 54 pc (lf 51 pc (oPutI 3 4 54)) (lf 54 pc (oALd 0 55)))) (nd 59 pc (nd 58 pc (lf 55 pc (oGetI 3 3 58)) (lf 58 pc (oALd 0 59))) (nd 62 pc (lf 59 pc (oGetI 3 1 62)) (nd 65 pc (lf 62 pc (oCpLt 73 65)) (lf 65 pc (oALd 0 66)))))))) (nd 98 pc (nd 82 pc (nd 74 pc (nd 70 pc (nd 67 pc (lf 66 pc (oCst 0 67)) (lf 67 pc (oPutI 3 2 70))) (nd 73 pc (lf 70 pc (oGo 259)) (lf 73 pc (oALd 0 74)))) (nd 78 pc (nd 77 pc (lf 74 pc (oGetR 3 0 77)) (lf 77 pc (oALd 0 78))) (nd 81 pc (lf 78 pc (oGetI 3 3 81)) (lf 81 pc (oIAL 82))))) (nd 90 pc (nd 88 pc (nd 85 pc (lf 82 pc (oCaS 1 S_X3_isLetter 85)) (lf 85 pc (oIfEq 132 88))) (nd 89 pc (lf 88 pc (oALd 0 89)) (lf 89 pc (oCst 1 90)))) (nd 94 pc (nd 93 pc (lf 90 pc (oPutI 3 2 93)) (lf 93 pc (lockO (oALd 0 94) 0))) (nd 97 pc (lf 94 pc (oGetI 3 4 97)) (lf 97 pc (oALd 0 98)))))) (nd 116 pc (nd 108 pc (nd 104 pc (nd 101 pc (lf 98 pc (oGetI 3 1 101)) (lf 101 pc (oCpLt 104 259))) (nd 105 pc (lf 104 pc (oALd 0 105)) (lf 105 pc (oGetR 3 0 108)))) (nd 112 pc (nd 109 pc (lf 108 pc (oALd 0 109)) (lf 109 pc (oGetI 3 4 112))) (nd 113 pc (lf 112 pc (oIAL 113)) (lf 113 pc (oCaS 1 S_X3_isLetter 116))))) (nd 124 pc (nd 120 pc (nd 119 pc (lf 116 pc (oIfEq 259 119)) (lf 119 pc (oALd 0 120))) (nd 121 pc (lf 120 pc (oDup 121)) (lf 121 pc (oGetI 3 4 124)))) (nd 126 pc (nd 125 pc (lf 124 pc (oCst 1 125)) (lf 125 pc (oBin (fun x y => x + y) 126))) (nd 129 pc (lf 126 pc (oPutI 3 4 129)) (nd 132 pc (lf 129 pc (oGo 93)) (lf 132 pc (oALd 0 133))))))))) (nd 199 pc (nd 165 pc (nd 149 pc (nd 141 pc (nd 137 pc (nd 136 pc (lf 133 pc (oGetR 3 0 136)) (lf 136 pc (oALd 0 137))) (nd 140 pc (lf 137 pc (oGetI 3 3 140)) (lf 140 pc (oIAL 141)))) (nd 147 pc (nd 144 pc (lf 141 pc (oCaS 1 S_X3_isDigit 144)) (lf 144 pc (oIfEq 226 147))) (nd 148 pc (lf 147 pc (oALd 0 148)) (lf 148 pc (oCst 2 149))))) (nd 157 pc (nd 153 pc (nd 152 pc (lf 149 pc (oPutI 3 2 152)) (lf 152 pc (oALd 0 153))) (nd 154 pc (lf 153 pc (oCst 0 154)) (lf 154 pc (oPutI 3 5 157)))) (nd 161 pc (nd 158 pc (lf 157 pc (lockO (oALd 0 158) 0)) (lf 158 pc (oGetI 3 4 161))) (nd 162 pc (lf 161 pc (oALd 0 162)) (lf 162 pc (oGetI 3 1 165)))))) (nd 183 pc (nd 173 pc (nd 169 pc (nd 168 pc (lf 165 pc (oCpLt 168 259)) (lf 168 pc (oALd 0 169))) (nd 172 pc (lf 169 pc (oGetR 3 0 172)) (lf 172 pc (oALd 0 173)))) (nd 177 pc (nd 176 pc (lf 173 pc (oGetI 3 4 176)) (lf 176 pc (oIAL 177))) (nd 180 pc (lf 177 pc (oCaS 1 S_X3_isDigit 180)) (lf 180 pc (oIfEq 259 183))))) (nd 190 pc (nd 186 pc (nd 184 pc (lf 183 pc (oALd 0 184)) (lf 184 pc (oCst 10 186))) (nd 187 pc (lf 186 pc (oALd 0 187)) (lf 187 pc (oGetI 3 5 190)))) (nd 192 pc (nd 191 pc (lf 190 pc (oBin (fun x y => x * y) 191)) (lf 191 pc (oALd 0 192))) (nd 195 pc (lf 192 pc (oGetR 3 0 195)) (nd 196 pc (lf 195 pc (oALd 0 196)) (lf 196 pc (oGetI 3 4 199)))))))) (nd 228 pc (nd 214 pc (nd 204 pc (nd 201 pc (nd 200 pc (lf 199 pc (oIAL 200)) (lf 200 pc (oBin (fun x y => x + y) 201))) (nd 203 pc (lf 201 pc (oCst 48 203)) (lf 203 pc (oBin (fun x y => x - y) 204)))) (nd 210 pc (nd 207 pc (lf 204 pc (oCst 1000 207)) (lf 207 pc (oMin 210))) (nd 213 pc (lf 210 pc (oPutI 3 5 213)) (lf 213 pc (oALd 0 214))))) (nd 220 pc (nd 218 pc (nd 215 pc (lf 214 pc (oDup 215)) (lf 215 pc (oGetI 3 4 218))) (nd 219 pc (lf 218 pc (oCst 1 219)) (lf 219 pc (oBin (fun x y => x + y) 220)))) (nd 226 pc (nd 223 pc (lf 220 pc (oPutI 3 4 223)) (lf 223 pc (oGo 157))) (nd 227 pc (lf 226 pc (oALd 0 227)) (lf 227 pc (oALd 0 228)))))) (nd 245 pc (nd 236 pc (nd 232 pc (nd 231 pc (lf 228 pc (oGetR 3 0 231)) (lf 231 pc (oALd 0 232))) (nd 235 pc (lf 232 pc (oGetI 3 3 235)) (lf 235 pc (oIAL 236)))) (nd 241 pc (nd 238 pc (lf 236 pc (oCst 59 238)) (lf 238 pc (oCpEq 241 245))) (nd 242 pc (lf 241 pc (oCst 3 242)) (lf 242 pc (oGo 246))))) (nd 251 pc (nd 249 pc (nd 246 pc (lf 245 pc (oCst 4 246)) (lf 246 pc (oPutI 3 2 249))) (nd 250 pc (lf 249 pc (oALd 0 250)) (lf 250 pc (oDup 251)))) (nd 255 pc (nd 254 pc (lf 251 pc (oGetI 3 4 254)) (lf 254 pc (oCst 1 255))) (nd 256 pc (lf 255 pc (oBin (fun x y => x + y) 256)) (nd 259 pc (lf 256 pc (oPutI 3 4 259)) (lf 259 pc (oVRet)))))))))
theorem ok_X3_step {l : Launch} {G : Gm} : ∀ pc, OkU (TXm l G (rmD 2) 1 cX3_step RX3) (RXm l G (rmD 2) 1 cX3_step RX3 none) pc (P_X3_step pc) := fun pc => ok_nd (ok_nd (ok_nd (ok_nd (ok_nd (ok_nd (ok_nd (ok_lf (ok_ALdn d_X3_step_0 rfl rfl)) (ok_lf (ok_ALdn d_X3_step_1 rfl rfl))) (ok_nd (ok_lf (ok_GetI (by decide) (by decide) rfl d_X3_step_2 q119 rfl)) (ok_lf (ok_PutI (by decide) (by decide) rfl rfl (by decide +kernel) d_X3_step_5 q118 rfl)))) (ok_nd (ok_nd (ok_lf (ok_lk (ok_ALdn d_X3_step_8 rfl rfl))) (ok_lf (ok_GetI (by decide) (by decide) rfl d_X3_step_9 q118 rfl))) (ok_nd (ok_lf (ok_ALdn d_X3_step_12 rfl rfl)) (ok_lf (ok_GetI (by decide) (by decide) rfl d_X3_step_13 q115 rfl))))) (ok_nd (ok_nd (ok_nd (ok_lf (ok_CpGe d_X3_step_16 (by decide) rfl)) (ok_lf (ok_ALdn d_X3_step_19 rfl rfl))) (ok_nd (ok_lf (ok_GetR (by decide) (by decide) rfl d_X3_step_20 q114 rfl)) (ok_lf (ok_ALdn d_X3_step_23 rfl rfl)))) (ok_nd (ok_nd (ok_lf (ok_GetI (by decide) (by decide) rfl d_X3_step_24 q118 rfl)) (ok_lf (ok_IAL d_X3_step_27 rfl))) (ok_nd (ok_lf (ok_BCst d_X3_step_28 (by decide) rfl)) (ok_lf (ok_CpNe d_X3_step_30 (by decide) rfl)))))) (ok_nd (ok_nd (ok_nd (ok_nd (ok_lf (ok_ALdn d_X3_step_33 rfl rfl)) (ok_lf (ok_Dup d_X3_step_34 rfl))) (ok_nd (ok_lf (ok_GetI (by decide) (by decide) rfl d_X3_step_35 q118 rfl)) (ok_lf (ok_ICst d_X3_step_38 (by decide) rfl)))) (ok_nd (ok_nd (ok_lf (ok_iadd d_X3_step_39 rfl)) (ok_lf (ok_PutI (by decide) (by decide) rfl rfl (by decide +kernel) d_X3_step_40 q118 rfl))) (ok_nd (ok_lf (ok_Go d_X3_step_43 (by decide))) (ok_lf (ok_ALdn d_X3_step_46 rfl rfl))))) (ok_nd (ok_nd (ok_nd (ok_lf (ok_ALdn d_X3_step_47 rfl rfl)) (ok_lf (ok_GetI (by decide) (by decide) rfl d_X3_step_48 q118 rfl))) (ok_nd (ok_lf (ok_PutI (by decide) (by decide) rfl rfl (by decide +kernel) d_X3_step_51 q119 rfl)) (ok_lf (ok_ALdn d_X3_step_54 rfl rfl)))) (ok_nd (ok_nd (ok_lf (ok_GetI (by decide) (by decide) rfl d_X3_step_55 q118 rfl)) (ok_lf (ok_ALdn d_X3_step_58 rfl rfl))) (ok_nd (ok_lf (ok_GetI (by decide) (by decide) rfl d_X3_step_59 q115 rfl)) (ok_nd (ok_lf (ok_CpLt d_X3_step_62 (by decide) rfl)) (ok_lf (ok_ALdn d_X3_step_65 rfl rfl)))))))) (ok_nd (ok_nd (ok_nd (ok_nd (ok_nd (ok_lf (ok_ICst d_X3_step_66 (by decide) rfl)) (ok_lf (ok_PutI (by decide) (by decide) rfl rfl (by decide +kernel) d_X3_step_67 q117 rfl))) (ok_nd (ok_lf (ok_Go d_X3_step_70 (by decide))) (ok_lf (ok_ALdn d_X3_step_73 rfl rfl)))) (ok_nd (ok_nd (ok_lf (ok_GetR (by decide) (by decide) rfl d_X3_step_74 q114 rfl)) (ok_lf (ok_ALdn d_X3_step_77 rfl rfl))) (ok_nd (ok_lf (ok_GetI (by decide) (by decide) rfl d_X3_step_78 q118 rfl)) (ok_lf (ok_IAL d_X3_step_81 rfl))))) (ok_nd (ok_nd (ok_nd (ok_lf (ok_CaS su_X3_isLetter d_X3_step_82 q514 q515 q4 q516 ⟨by decide +kernel, by decide +kernel, by decide +kernel⟩ ⟨by decide, by decide⟩ rfl)) (ok_lf (ok_IfEq d_X3_step_85 (by decide) rfl))) (ok_nd (ok_lf (ok_ALdn d_X3_step_88 rfl rfl)) (ok_lf (ok_ICst d_X3_step_89 (by decide) rfl)))) (ok_nd (ok_nd (ok_lf (ok_PutI (by decide) (by decide) rfl rfl (by decide +kernel) d_X3_step_90 q117 rfl)) (ok_lf (ok_lk (ok_ALdn d_X3_step_93 rfl rfl)))) (ok_nd (ok_lf (ok_GetI (by decide) (by decide) rfl d_X3_step_94 q119 rfl)) (ok_lf (ok_ALdn d_X3_step_97 rfl rfl)))))) (ok_nd (ok_nd (ok_nd (ok_nd (ok_lf (ok_GetI (by decide) (by decide) rfl d_X3_step_98 q115 rfl)) (ok_lf (ok_CpGe d_X3_step_101 (by decide) rfl))) (ok_nd (ok_lf (ok_ALdn d_X3_step_104 rfl rfl)) (ok_lf (ok_GetR (by decide) (by decide) rfl d_X3_step_105 q114 rfl)))) (ok_nd (ok_nd (ok_lf (ok_ALdn d_X3_step_108 rfl rfl)) (ok_lf (ok_GetI (by decide) (by decide) rfl d_X3_step_109 q119 rfl))) (ok_nd (ok_lf (ok_IAL d_X3_step_112 rfl)) (ok_lf (ok_CaS su_X3_isLetter d_X3_step_113 q514 q515 q4 q516 ⟨by decide +kernel, by decide +kernel, by decide +kernel⟩ ⟨by decide, by decide⟩ rfl))))) (ok_nd (ok_nd (ok_nd (ok_lf (ok_IfEq d_X3_step_116 (by decide) rfl)) (ok_lf (ok_ALdn d_X3_step_119 rfl rfl))) (ok_nd (ok_lf (ok_Dup d_X3_step_120 rfl)) (ok_lf (ok_GetI (by decide) (by decide) rfl d_X3_step_121 q119 rfl)))) (ok_nd (ok_nd (ok_lf (ok_ICst d_X3_step_124 (by decide) rfl)) (ok_lf (ok_iadd d_X3_step_125 rfl))) (ok_nd (ok_lf (ok_PutI (by decide) (by decide) rfl rfl (by decide +kernel) d_X3_step_126 q119 rfl)) (ok_nd (ok_lf (ok_Go d_X3_step_129 (by decide))) (ok_lf (ok_ALdn d_X3_step_132 rfl rfl))))))))) (ok_nd (ok_nd (ok_nd (ok_nd (ok_nd (ok_nd (ok_lf (ok_GetR (by decide) (by decide) rfl d_X3_step_133 q114 rfl)) (ok_lf (ok_ALdn d_X3_step_136 rfl rfl))) (ok_nd (ok_lf (ok_GetI (by decide) (by decide) rfl d_X3_step_137 q118 rfl)) (ok_lf (ok_IAL d_X3_step_140 rfl)))) (ok_nd (ok_nd (ok_lf (ok_CaS su_X3_isDigit d_X3_step_141 q517 q518 q4 q519 ⟨by decide +kernel, by decide +kernel, by decide +kernel⟩ ⟨by decide, by decide⟩ rfl)) (ok_lf (ok_IfEq d_X3_step_144 (by decide) rfl))) (ok_nd (ok_lf (ok_ALdn d_X3_step_147 rfl rfl)) (ok_lf (ok_ICst d_X3_step_148 (by decide) rfl))))) (ok_nd (ok_nd (ok_nd (ok_lf (ok_PutI (by decide) (by decide) rfl rfl (by decide +kernel) d_X3_step_149 q117 rfl)) (ok_lf (ok_ALdn d_X3_step_152 rfl rfl))) (ok_nd (ok_lf (ok_ICst d_X3_step_153 (by decide) rfl)) (ok_lf (ok_PutI (by decide) (by decide) rfl rfl (by decide +kernel) d_X3_step_154 q120 rfl)))) (ok_nd (ok_nd (ok_lf (ok_lk (ok_ALdn d_X3_step_157 rfl rfl))) (ok_lf (ok_GetI (by decide) (by decide) rfl d_X3_step_158 q119 rfl))) (ok_nd (ok_lf (ok_ALdn d_X3_step_161 rfl rfl)) (ok_lf (ok_GetI (by decide) (by decide) rfl d_X3_step_162 q115 rfl)))))) (ok_nd (ok_nd (ok_nd (ok_nd (ok_lf (ok_CpGe d_X3_step_165 (by decide) rfl)) (ok_lf (ok_ALdn d_X3_step_168 rfl rfl))) (ok_nd (ok_lf (ok_GetR (by decide) (by decide) rfl d_X3_step_169 q114 rfl)) (ok_lf (ok_ALdn d_X3_step_172 rfl rfl)))) (ok_nd (ok_nd (ok_lf (ok_GetI (by decide) (by decide) rfl d_X3_step_173 q119 rfl)) (ok_lf (ok_IAL d_X3_step_176 rfl))) (ok_nd (ok_lf (ok_CaS su_X3_isDigit d_X3_step_177 q517 q518 q4 q519 ⟨by decide +kernel, by decide +kernel, by decide +kernel⟩ ⟨by decide, by decide⟩ rfl)) (ok_lf (ok_IfEq d_X3_step_180 (by decide) rfl))))) (ok_nd (ok_nd (ok_nd (ok_lf (ok_ALdn d_X3_step_183 rfl rfl)) (ok_lf (ok_BCst d_X3_step_184 (by decide) rfl))) (ok_nd (ok_lf (ok_ALdn d_X3_step_186 rfl rfl)) (ok_lf (ok_GetI (by decide) (by decide) rfl d_X3_step_187 q120 rfl)))) (ok_nd (ok_nd (ok_lf (ok_imul d_X3_step_190 rfl)) (ok_lf (ok_ALdn d_X3_step_191 rfl rfl))) (ok_nd (ok_lf (ok_GetR (by decide) (by decide) rfl d_X3_step_192 q114 rfl)) (ok_nd (ok_lf (ok_ALdn d_X3_step_195 rfl rfl)) (ok_lf (ok_GetI (by decide) (by decide) rfl d_X3_step_196 q119 rfl)))))))) (ok_nd (ok_nd (ok_nd (ok_nd (ok_nd (ok_lf (ok_IAL d_X3_step_199 rfl)) (ok_lf (ok_iadd d_X3_step_200 rfl))) (ok_nd (ok_lf (ok_BCst d_X3_step_201 (by decide) rfl)) (ok_lf (ok_isub d_X3_step_203 rfl)))) (ok_nd (ok_nd (ok_lf (ok_SCst d_X3_step_204 (by decide) rfl)) (ok_lf (ok_Min d_X3_step_207 q520 q247 q7 q248 ⟨by decide, by decide⟩ rfl))) (ok_nd (ok_lf (ok_PutI (by decide) (by decide) rfl rfl (by decide +kernel) d_X3_step_210 q120 rfl)) (ok_lf (ok_ALdn d_X3_step_213 rfl rfl))))) (ok_nd (ok_nd (ok_nd (ok_lf (ok_Dup d_X3_step_214 rfl)) (ok_lf (ok_GetI (by decide) (by decide) rfl d_X3_step_215 q119 rfl))) (ok_nd (ok_lf (ok_ICst d_X3_step_218 (by decide) rfl)) (ok_lf (ok_iadd d_X3_step_219 rfl)))) (ok_nd (ok_nd (ok_lf (ok_PutI (by decide) (by decide) rfl rfl (by decide +kernel) d_X3_step_220 q119 rfl)) (ok_lf (ok_Go d_X3_step_223 (by decide)))) (ok_nd (ok_lf (ok_ALdn d_X3_step_226 rfl rfl)) (ok_lf (ok_ALdn d_X3_step_227 rfl rfl)))))) (ok_nd (ok_nd (ok_nd (ok_nd (ok_lf (ok_GetR (by decide) (by decide) rfl d_X3_step_228 q114 rfl)) (ok_lf (ok_ALdn d_X3_step_231 rfl rfl))) (ok_nd (ok_lf (ok_GetI (by decide) (by decide) rfl d_X3_step_232 q118 rfl)) (ok_lf (ok_IAL d_X3_step_235 rfl)))) (ok_nd (ok_nd (ok_lf (ok_BCst d_X3_step_236 (by decide) rfl)) (ok_lf (ok_CpNe d_X3_step_238 (by decide) rfl))) (ok_nd (ok_lf (ok_ICst d_X3_step_241 (by decide) rfl)) (ok_lf (ok_Go d_X3_step_242 (by decide)))))) (ok_nd (ok_nd (ok_nd (ok_lf (ok_ICst d_X3_step_245 (by decide) rfl)) (ok_lf (ok_PutI (by decide) (by decide) rfl rfl (by decide +kernel) d_X3_step_246 q117 rfl))) (ok_nd (ok_lf (ok_ALdn d_X3_step_249 rfl rfl)) (ok_lf (ok_Dup d_X3_step_250 rfl)))) (ok_nd (ok_nd (ok_lf (ok_GetI (by decide) (by decide) rfl d_X3_step_251 q119 rfl)) (ok_lf (ok_ICst d_X3_step_254 (by decide) rfl))) (ok_nd (ok_lf (ok_iadd d_X3_step_255 rfl)) (ok_nd (ok_lf (ok_PutI (by decide) (by decide) rfl rfl (by decide +kernel) d_X3_step_256 q119 rfl)) (ok_lf (ok_VRet d_X3_step_259)))))))))
noncomputable def S_X3_step : Sem := lockS (inl P_X3_step 30000 1) 0
theorem su_X3_step {l : Launch} {G : Gm} : SemU l G yX3_step (wsOf yX3_step cX3_step 1 none) 2 S_X3_step := sem_lock (sem_inl 30000 (by decide +kernel) rfl ok_X3_step)
theorem d_X3_isWord_0 : decode cX3_isWord 0 = .ok (.aload_n 0, 1) := by decide +kernel
theorem d_X3_isWord_1 : decode cX3_isWord 1 = .ok (.getfield 19, 3) := by decide +kernel
theorem d_X3_isWord_4 : decode cX3_isWord 4 = .ok (.iconst 1, 1) := by decide +kernel
theorem d_X3_isWord_5 : decode cX3_isWord 5 = .ok (.if_icmp .ne 19, 3) := by decide +kernel
theorem d_X3_isWord_8 : decode cX3_isWord 8 = .ok (.aload_n 0, 1) := by decide +kernel
theorem d_X3_isWord_9 : decode cX3_isWord 9 = .ok (.getfield 25, 3) := by decide +kernel
theorem d_X3_isWord_12 : decode cX3_isWord 12 = .ok (.aload_n 0, 1) := by decide +kernel
theorem d_X3_isWord_13 : decode cX3_isWord 13 = .ok (.getfield 22, 3) := by decide +kernel
theorem d_X3_isWord_16 : decode cX3_isWord 16 = .ok (.isub, 1) := by decide +kernel
theorem d_X3_isWord_17 : decode cX3_isWord 17 = .ok (.aload_n 1, 1) := by decide +kernel
theorem d_X3_isWord_18 : decode cX3_isWord 18 = .ok (.invokevirtual 118, 3) := by decide +kernel
theorem d_X3_isWord_21 : decode cX3_isWord 21 = .ok (.if_icmp .eq 5, 3) := by decide +kernel
theorem d_X3_isWord_24 : decode cX3_isWord 24 = .ok (.iconst 0, 1) := by decide +kernel
theorem d_X3_isWord_25 : decode cX3_isWord 25 = .ok (.ireturn, 1) := by decide +kernel
theorem d_X3_isWord_26 : decode cX3_isWord 26 = .ok (.iconst 0, 1) := by decide +kernel
theorem d_X3_isWord_27 : decode cX3_isWord 27 = .ok (.istore_n 2, 1) := by decide +kernel
theorem d_X3_isWord_28 : decode cX3_isWord 28 = .ok (.iload_n 2, 1) := by decide +kernel
theorem d_X3_isWord_29 : decode cX3_isWord 29 = .ok (.aload_n 1, 1) := by decide +kernel
theorem d_X3_isWord_30 : decode cX3_isWord 30 = .ok (.invokevirtual 118, 3) := by decide +kernel
theorem d_X3_isWord_33 : decode cX3_isWord 33 = .ok (.if_icmp .ge 30, 3) := by decide +kernel
theorem d_X3_isWord_36 : decode cX3_isWord 36 = .ok (.aload_n 0, 1) := by decide +kernel
theorem d_X3_isWord_37 : decode cX3_isWord 37 = .ok (.getfield 9, 3) := by decide +kernel
theorem d_X3_isWord_40 : decode cX3_isWord 40 = .ok (.aload_n 0, 1) := by decide +kernel
theorem d_X3_isWord_41 : decode cX3_isWord 41 = .ok (.getfield 22, 3) := by decide +kernel
theorem d_X3_isWord_44 : decode cX3_isWord 44 = .ok (.iload_n 2, 1) := by decide +kernel
theorem d_X3_isWord_45 : decode cX3_isWord 45 = .ok (.iadd, 1) := by decide +kernel
theorem d_X3_isWord_46 : decode cX3_isWord 46 = .ok (.iaload, 1) := by decide +kernel
theorem d_X3_isWord_47 : decode cX3_isWord 47 = .ok (.aload_n 1, 1) := by decide +kernel
theorem d_X3_isWord_48 : decode cX3_isWord 48 = .ok (.iload_n 2, 1) := by decide +kernel
theorem d_X3_isWord_49 : decode cX3_isWord 49 = .ok (.invokevirtual 123, 3) := by decide +kernel
theorem d_X3_isWord_52 : decode cX3_isWord 52 = .ok (.if_icmp .eq 5, 3) := by decide +kernel
theorem d_X3_isWord_55 : decode cX3_isWord 55 = .ok (.iconst 0, 1) := by decide +kernel
theorem d_X3_isWord_56 : decode cX3_isWord 56 = .ok (.ireturn, 1) := by decide +kernel
theorem d_X3_isWord_57 : decode cX3_isWord 57 = .ok (.iinc 2 1, 3) := by decide +kernel
theorem d_X3_isWord_60 : decode cX3_isWord 60 = .ok (.goto (-32), 3) := by decide +kernel
theorem d_X3_isWord_63 : decode cX3_isWord 63 = .ok (.iconst 1, 1) := by decide +kernel
theorem d_X3_isWord_64 : decode cX3_isWord 64 = .ok (.ireturn, 1) := by decide +kernel
noncomputable def P_X3_isWord : Nat → Op := fun pc => nd 30 pc (nd 17 pc (nd 8 pc (nd 4 pc (nd 1 pc (lf 0 pc (oALd 0 1)) (lf 1 pc (oGetI 3 2 4))) (nd 5 pc (lf 4 pc (oCst 1 5)) (lf 5 pc (oCpEq 8 24)))) (nd 12 pc (nd 9 pc (lf 8 pc (oALd 0 9)) (lf 9 pc (oGetI 3 4 12))) (nd 13 pc (lf 12 pc (oALd 0 13)) (nd 16 pc (lf 13 pc (oGetI 3 3 16)) (lf 16 pc (oBin (fun x y => x - y) 17)))))) (nd 25 pc (nd 21 pc (nd 18 pc (lf 17 pc (oALd 1 18)) (lf 18 pc (oCaV 1 11 S_J0_length_8abf5 21))) (nd 24 pc (lf 21 pc (oCpEq 26 24)) (lf 24 pc (oCst 0 25)))) (nd 27 pc (nd 26 pc (lf 25 pc (oZRet)) (lf 26 pc (oCst 0 27))) (nd 28 pc (lf 27 pc (oISt 2 28)) (nd 29 pc (lf 28 pc (lockO (oILd 2 29) 0)) (lf 29 pc (oALd 1 30))))))) (nd 47 pc (nd 40 pc (nd 36 pc (nd 33 pc (lf 30 pc (oCaV 1 11 S_J0_length_8abf5 33)) (lf 33 pc (oCpLt 36 63))) (nd 37 pc (lf 36 pc (oALd 0 37)) (lf 37 pc (oGetR 3 0 40)))) (nd 44 pc (nd 41 pc (lf 40 pc (oALd 0 41)) (lf 41 pc (oGetI 3 3 44))) (nd 45 pc (lf 44 pc (oILd 2 45)) (nd 46 pc (lf 45 pc (oBin (fun x y => x + y) 46)) (lf 46 pc (oIAL 47)))))) (nd 56 pc (nd 49 pc (nd 48 pc (lf 47 pc (oALd 1 48)) (lf 48 pc (oILd 2 49))) (nd 52 pc (lf 49 pc (oCaV 2 11 S_J0_charAt_5068e 52)) (nd 55 pc (lf 52 pc (oCpEq 57 55)) (lf 55 pc (oCst 0 56))))) (nd 60 pc (nd 57 pc (lf 56 pc (oZRet)) (lf 57 pc (oInc 2 1 60))) (nd 63 pc (lf 60 pc (oGo 28)) (nd 64 pc (lf 63 pc (oCst 1 64)) (lf 64 pc (oZRet)))))))
theorem ok_X3_isWord {l : Launch} {G : Gm} : ∀ pc, OkU (TXm l G (rmD 5) 3 cX3_isWord RX3) (RXm l G (rmD 5) 3 cX3_isWord RX3 (some .boolean)) pc (P_X3_isWord pc) := fun pc => ok_nd (ok_nd (ok_nd (ok_nd (ok_nd (ok_lf (ok_ALdn d_X3_isWord_0 rfl rfl)) (ok_lf (ok_GetI (by decide) (by decide) rfl d_X3_isWord_1 q117 rfl))) (ok_nd (ok_lf (ok_ICst d_X3_isWord_4 (by decide) rfl)) (ok_lf (ok_CpNe d_X3_isWord_5 (by decide) rfl)))) (ok_nd (ok_nd (ok_lf (ok_ALdn d_X3_isWord_8 rfl rfl)) (ok_lf (ok_GetI (by decide) (by decide) rfl d_X3_isWord_9 q119 rfl))) (ok_nd (ok_lf (ok_ALdn d_X3_isWord_12 rfl rfl)) (ok_nd (ok_lf (ok_GetI (by decide) (by decide) rfl d_X3_isWord_13 q118 rfl)) (ok_lf (ok_isub d_X3_isWord_16 rfl)))))) (ok_nd (ok_nd (ok_nd (ok_lf (ok_ALdn d_X3_isWord_17 rfl rfl)) (ok_lf (ok_CaT su_J0_length_8abf5 d_X3_isWord_18 q534 q535 q536 q10 q537 ⟨by decide +kernel, by decide +kernel, by decide +kernel⟩ ⟨by decide, by decide⟩ rfl))) (ok_nd (ok_lf (ok_CpEq d_X3_isWord_21 (by decide) rfl)) (ok_lf (ok_ICst d_X3_isWord_24 (by decide) rfl)))) (ok_nd (ok_nd (ok_lf (ok_ZRet d_X3_isWord_25)) (ok_lf (ok_ICst d_X3_isWord_26 (by decide) rfl))) (ok_nd (ok_lf (ok_IStn d_X3_isWord_27 rfl rfl)) (ok_nd (ok_lf (ok_lk (ok_ILdn d_X3_isWord_28 rfl rfl))) (ok_lf (ok_ALdn d_X3_isWord_29 rfl rfl))))))) (ok_nd (ok_nd (ok_nd (ok_nd (ok_lf (ok_CaT su_J0_length_8abf5 d_X3_isWord_30 q534 q535 q536 q10 q537 ⟨by decide +kernel, by decide +kernel, by decide +kernel⟩ ⟨by decide, by decide⟩ rfl)) (ok_lf (ok_CpGe d_X3_isWord_33 (by decide) rfl))) (ok_nd (ok_lf (ok_ALdn d_X3_isWord_36 rfl rfl)) (ok_lf (ok_GetR (by decide) (by decide) rfl d_X3_isWord_37 q114 rfl)))) (ok_nd (ok_nd (ok_lf (ok_ALdn d_X3_isWord_40 rfl rfl)) (ok_lf (ok_GetI (by decide) (by decide) rfl d_X3_isWord_41 q118 rfl))) (ok_nd (ok_lf (ok_ILdn d_X3_isWord_44 rfl rfl)) (ok_nd (ok_lf (ok_iadd d_X3_isWord_45 rfl)) (ok_lf (ok_IAL d_X3_isWord_46 rfl)))))) (ok_nd (ok_nd (ok_nd (ok_lf (ok_ALdn d_X3_isWord_47 rfl rfl)) (ok_lf (ok_ILdn d_X3_isWord_48 rfl rfl))) (ok_nd (ok_lf (ok_CaT su_J0_charAt_5068e d_X3_isWord_49 q544 q545 q546 q10 q547 ⟨by decide +kernel, by decide +kernel, by decide +kernel⟩ ⟨by decide, by decide⟩ rfl)) (ok_nd (ok_lf (ok_CpEq d_X3_isWord_52 (by decide) rfl)) (ok_lf (ok_ICst d_X3_isWord_55 (by decide) rfl))))) (ok_nd (ok_nd (ok_lf (ok_ZRet d_X3_isWord_56)) (ok_lf (ok_Inc d_X3_isWord_57 (by decide) rfl))) (ok_nd (ok_lf (ok_Go d_X3_isWord_60 (by decide))) (ok_nd (ok_lf (ok_ICst d_X3_isWord_63 (by decide) rfl)) (ok_lf (ok_ZRet d_X3_isWord_64)))))))
noncomputable def S_X3_isWord : Sem := lockS (inl P_X3_isWord 30000 3) 0
theorem su_X3_isWord {l : Launch} {G : Gm} : SemU l G yX3_isWord (wsOf yX3_isWord cX3_isWord 3 (some .boolean)) 5 S_X3_isWord := sem_lock (sem_inl 30000 (by decide +kernel) rfl ok_X3_isWord)
theorem d_X3_stepsToNumber_0 : decode cX3_stepsToNumber 0 = .ok (.aload_n 0, 1) := by decide +kernel
theorem d_X3_stepsToNumber_1 : decode cX3_stepsToNumber 1 = .ok (.invokevirtual 31, 3) := by decide +kernel
theorem d_X3_stepsToNumber_4 : decode cX3_stepsToNumber 4 = .ok (.aload_n 0, 1) := by decide +kernel
theorem d_X3_stepsToNumber_5 : decode cX3_stepsToNumber 5 = .ok (.getfield 19, 3) := by decide +kernel
theorem d_X3_stepsToNumber_8 : decode cX3_stepsToNumber 8 = .ok (.iconst 2, 1) := by decide +kernel
theorem d_X3_stepsToNumber_9 : decode cX3_stepsToNumber 9 = .ok (.if_icmp .ne 23, 3) := by decide +kernel
theorem d_X3_stepsToNumber_12 : decode cX3_stepsToNumber 12 = .ok (.aload_n 0, 1) := by decide +kernel
theorem d_X3_stepsToNumber_13 : decode cX3_stepsToNumber 13 = .ok (.getfield 28, 3) := by decide +kernel
theorem d_X3_stepsToNumber_16 : decode cX3_stepsToNumber 16 = .ok (.iload_n 1, 1) := by decide +kernel
theorem d_X3_stepsToNumber_17 : decode cX3_stepsToNumber 17 = .ok (.if_icmp .lt 15, 3) := by decide +kernel
theorem d_X3_stepsToNumber_20 : decode cX3_stepsToNumber 20 = .ok (.aload_n 0, 1) := by decide +kernel
theorem d_X3_stepsToNumber_21 : decode cX3_stepsToNumber 21 = .ok (.getfield 28, 3) := by decide +kernel
theorem d_X3_stepsToNumber_24 : decode cX3_stepsToNumber 24 = .ok (.iload_n 2, 1) := by decide +kernel
theorem d_X3_stepsToNumber_25 : decode cX3_stepsToNumber 25 = .ok (.if_icmp .gt 7, 3) := by decide +kernel
theorem d_X3_stepsToNumber_28 : decode cX3_stepsToNumber 28 = .ok (.iconst 1, 1) := by decide +kernel
theorem d_X3_stepsToNumber_29 : decode cX3_stepsToNumber 29 = .ok (.goto 4, 3) := by decide +kernel
theorem d_X3_stepsToNumber_32 : decode cX3_stepsToNumber 32 = .ok (.iconst 0, 1) := by decide +kernel
theorem d_X3_stepsToNumber_33 : decode cX3_stepsToNumber 33 = .ok (.ireturn, 1) := by decide +kernel
noncomputable def P_X3_stepsToNumber : Nat → Op := fun pc => nd 17 pc (nd 8 pc (nd 4 pc (nd 1 pc (lf 0 pc (oALd 0 1)) (lf 1 pc (oCaV 1 3 S_X3_step 4))) (nd 5 pc (lf 4 pc (oALd 0 5)) (lf 5 pc (oGetI 3 2 8)))) (nd 12 pc (nd 9 pc (lf 8 pc (oCst 2 9)) (lf 9 pc (oCpEq 12 32))) (nd 13 pc (lf 12 pc (oALd 0 13)) (nd 16 pc (lf 13 pc (oGetI 3 5 16)) (lf 16 pc (oILd 1 17)))))) (nd 25 pc (nd 21 pc (nd 20 pc (lf 17 pc (oCpLt 32 20)) (lf 20 pc (oALd 0 21))) (nd 24 pc (lf 21 pc (oGetI 3 5 24)) (lf 24 pc (oILd 2 25)))) (nd 29 pc (nd 28 pc (lf 25 pc (oCpGt 32 28)) (lf 28 pc (oCst 1 29))) (nd 32 pc (lf 29 pc (oGo 33)) (nd 33 pc (lf 32 pc (oCst 0 33)) (lf 33 pc (oZRet))))))
theorem ok_X3_stepsToNumber {l : Launch} {G : Gm} : ∀ pc, OkU (TXm l G (rmD 3) 3 cX3_stepsToNumber RX3) (RXm l G (rmD 3) 3 cX3_stepsToNumber RX3 (some .boolean)) pc (P_X3_stepsToNumber pc) := fun pc => ok_nd (ok_nd (ok_nd (ok_nd (ok_lf (ok_ALdn d_X3_stepsToNumber_0 rfl rfl)) (ok_lf (ok_CaV su_X3_step (by decide) rfl d_X3_stepsToNumber_1 q510 q512 z41 q4 q513 ⟨by decide +kernel, by decide +kernel, by decide +kernel⟩ ⟨by decide, by decide⟩ rfl))) (ok_nd (ok_lf (ok_ALdn d_X3_stepsToNumber_4 rfl rfl)) (ok_lf (ok_GetI (by decide) (by decide) rfl d_X3_stepsToNumber_5 q117 rfl)))) (ok_nd (ok_nd (ok_lf (ok_ICst d_X3_stepsToNumber_8 (by decide) rfl)) (ok_lf (ok_CpNe d_X3_stepsToNumber_9 (by decide) rfl))) (ok_nd (ok_lf (ok_ALdn d_X3_stepsToNumber_12 rfl rfl)) (ok_nd (ok_lf (ok_GetI (by decide) (by decide) rfl d_X3_stepsToNumber_13 q120 rfl)) (ok_lf (ok_ILdn d_X3_stepsToNumber_16 rfl rfl)))))) (ok_nd (ok_nd (ok_nd (ok_lf (ok_CpLt d_X3_stepsToNumber_17 (by decide) rfl)) (ok_lf (ok_ALdn d_X3_stepsToNumber_20 rfl rfl))) (ok_nd (ok_lf (ok_GetI (by decide) (by decide) rfl d_X3_stepsToNumber_21 q120 rfl)) (ok_lf (ok_ILdn d_X3_stepsToNumber_24 rfl rfl)))) (ok_nd (ok_nd (ok_lf (ok_CpGt d_X3_stepsToNumber_25 (by decide) rfl)) (ok_lf (ok_ICst d_X3_stepsToNumber_28 (by decide) rfl))) (ok_nd (ok_lf (ok_Go d_X3_stepsToNumber_29 (by decide))) (ok_nd (ok_lf (ok_ICst d_X3_stepsToNumber_32 (by decide) rfl)) (ok_lf (ok_ZRet d_X3_stepsToNumber_33))))))
noncomputable def S_X3_stepsToNumber : Sem := lockS (inl P_X3_stepsToNumber 20 3) 0
theorem su_X3_stepsToNumber {l : Launch} {G : Gm} : SemU l G yX3_stepsToNumber (wsOf yX3_stepsToNumber cX3_stepsToNumber 3 (some .boolean)) 3 S_X3_stepsToNumber := sem_lock (sem_inl 20 (by decide +kernel) rfl ok_X3_stepsToNumber)
theorem d_X3_kindOfWord_0 : decode cX3_kindOfWord 0 = .ok (.aload_n 0, 1) := by decide +kernel
theorem d_X3_kindOfWord_1 : decode cX3_kindOfWord 1 = .ok (.ldc 65, 2) := by decide +kernel
theorem d_X3_kindOfWord_3 : decode cX3_kindOfWord 3 = .ok (.invokevirtual 48, 3) := by decide +kernel
theorem d_X3_kindOfWord_6 : decode cX3_kindOfWord 6 = .ok (.ifCond .eq 5, 3) := by decide +kernel
theorem d_X3_kindOfWord_9 : decode cX3_kindOfWord 9 = .ok (.iconst 0, 1) := by decide +kernel
theorem d_X3_kindOfWord_10 : decode cX3_kindOfWord 10 = .ok (.ireturn, 1) := by decide +kernel
theorem d_X3_kindOfWord_11 : decode cX3_kindOfWord 11 = .ok (.aload_n 0, 1) := by decide +kernel
theorem d_X3_kindOfWord_12 : decode cX3_kindOfWord 12 = .ok (.ldc 67, 2) := by decide +kernel
theorem d_X3_kindOfWord_14 : decode cX3_kindOfWord 14 = .ok (.invokevirtual 48, 3) := by decide +kernel
theorem d_X3_kindOfWord_17 : decode cX3_kindOfWord 17 = .ok (.ifCond .eq 5, 3) := by decide +kernel
theorem d_X3_kindOfWord_20 : decode cX3_kindOfWord 20 = .ok (.iconst 1, 1) := by decide +kernel
theorem d_X3_kindOfWord_21 : decode cX3_kindOfWord 21 = .ok (.ireturn, 1) := by decide +kernel
theorem d_X3_kindOfWord_22 : decode cX3_kindOfWord 22 = .ok (.aload_n 0, 1) := by decide +kernel
theorem d_X3_kindOfWord_23 : decode cX3_kindOfWord 23 = .ok (.ldc 71, 2) := by decide +kernel
theorem d_X3_kindOfWord_25 : decode cX3_kindOfWord 25 = .ok (.invokevirtual 48, 3) := by decide +kernel
theorem d_X3_kindOfWord_28 : decode cX3_kindOfWord 28 = .ok (.ifCond .eq 5, 3) := by decide +kernel
theorem d_X3_kindOfWord_31 : decode cX3_kindOfWord 31 = .ok (.iconst 2, 1) := by decide +kernel
theorem d_X3_kindOfWord_32 : decode cX3_kindOfWord 32 = .ok (.ireturn, 1) := by decide +kernel
theorem d_X3_kindOfWord_33 : decode cX3_kindOfWord 33 = .ok (.aload_n 0, 1) := by decide +kernel
theorem d_X3_kindOfWord_34 : decode cX3_kindOfWord 34 = .ok (.ldc 73, 2) := by decide +kernel
theorem d_X3_kindOfWord_36 : decode cX3_kindOfWord 36 = .ok (.invokevirtual 48, 3) := by decide +kernel
theorem d_X3_kindOfWord_39 : decode cX3_kindOfWord 39 = .ok (.ifCond .eq 5, 3) := by decide +kernel
theorem d_X3_kindOfWord_42 : decode cX3_kindOfWord 42 = .ok (.iconst 3, 1) := by decide +kernel
theorem d_X3_kindOfWord_43 : decode cX3_kindOfWord 43 = .ok (.ireturn, 1) := by decide +kernel
theorem d_X3_kindOfWord_44 : decode cX3_kindOfWord 44 = .ok (.aload_n 0, 1) := by decide +kernel
theorem d_X3_kindOfWord_45 : decode cX3_kindOfWord 45 = .ok (.ldc 75, 2) := by decide +kernel
theorem d_X3_kindOfWord_47 : decode cX3_kindOfWord 47 = .ok (.invokevirtual 48, 3) := by decide +kernel
theorem d_X3_kindOfWord_50 : decode cX3_kindOfWord 50 = .ok (.ifCond .eq 5, 3) := by decide +kernel
theorem d_X3_kindOfWord_53 : decode cX3_kindOfWord 53 = .ok (.iconst 4, 1) := by decide +kernel
theorem d_X3_kindOfWord_54 : decode cX3_kindOfWord 54 = .ok (.ireturn, 1) := by decide +kernel
theorem d_X3_kindOfWord_55 : decode cX3_kindOfWord 55 = .ok (.aload_n 0, 1) := by decide +kernel
theorem d_X3_kindOfWord_56 : decode cX3_kindOfWord 56 = .ok (.ldc 77, 2) := by decide +kernel
theorem d_X3_kindOfWord_58 : decode cX3_kindOfWord 58 = .ok (.invokevirtual 48, 3) := by decide +kernel
theorem d_X3_kindOfWord_61 : decode cX3_kindOfWord 61 = .ok (.ifCond .eq 5, 3) := by decide +kernel
theorem d_X3_kindOfWord_64 : decode cX3_kindOfWord 64 = .ok (.iconst 5, 1) := by decide +kernel
theorem d_X3_kindOfWord_65 : decode cX3_kindOfWord 65 = .ok (.ireturn, 1) := by decide +kernel
theorem d_X3_kindOfWord_66 : decode cX3_kindOfWord 66 = .ok (.aload_n 0, 1) := by decide +kernel
theorem d_X3_kindOfWord_67 : decode cX3_kindOfWord 67 = .ok (.ldc 79, 2) := by decide +kernel
theorem d_X3_kindOfWord_69 : decode cX3_kindOfWord 69 = .ok (.invokevirtual 48, 3) := by decide +kernel
theorem d_X3_kindOfWord_72 : decode cX3_kindOfWord 72 = .ok (.ifCond .eq 8, 3) := by decide +kernel
theorem d_X3_kindOfWord_75 : decode cX3_kindOfWord 75 = .ok (.bipush 6, 2) := by decide +kernel
theorem d_X3_kindOfWord_77 : decode cX3_kindOfWord 77 = .ok (.goto 4, 3) := by decide +kernel
theorem d_X3_kindOfWord_80 : decode cX3_kindOfWord 80 = .ok (.iconst (-1), 1) := by decide +kernel
theorem d_X3_kindOfWord_81 : decode cX3_kindOfWord 81 = .ok (.ireturn, 1) := by decide +kernel
noncomputable def P_X3_kindOfWord : Nat → Op := fun pc => nd 42 pc (nd 21 pc (nd 10 pc (nd 3 pc (nd 1 pc (lf 0 pc (oALd 0 1)) (lf 1 pc (oLdS 0 3))) (nd 6 pc (lf 3 pc (oCaV 2 3 S_X3_isWord 6)) (nd 9 pc (lf 6 pc (oIfEq 11 9)) (lf 9 pc (oCst 0 10))))) (nd 14 pc (nd 11 pc (lf 10 pc (oIRet)) (nd 12 pc (lf 11 pc (oALd 0 12)) (lf 12 pc (oLdS 1 14)))) (nd 17 pc (lf 14 pc (oCaV 2 3 S_X3_isWord 17)) (nd 20 pc (lf 17 pc (oIfEq 22 20)) (lf 20 pc (oCst 1 21)))))) (nd 31 pc (nd 23 pc (nd 22 pc (lf 21 pc (oIRet)) (lf 22 pc (oALd 0 23))) (nd 25 pc (lf 23 pc (oLdS 2 25)) (nd 28 pc (lf 25 pc (oCaV 2 3 S_X3_isWord 28)) (lf 28 pc (oIfEq 33 31))))) (nd 34 pc (nd 32 pc (lf 31 pc (oCst 2 32)) (nd 33 pc (lf 32 pc (oIRet)) (lf 33 pc (oALd 0 34)))) (nd 36 pc (lf 34 pc (oLdS 3 36)) (nd 39 pc (lf 36 pc (oCaV 2 3 S_X3_isWord 39)) (lf 39 pc (oIfEq 44 42))))))) (nd 61 pc (nd 50 pc (nd 44 pc (nd 43 pc (lf 42 pc (oCst 3 43)) (lf 43 pc (oIRet))) (nd 45 pc (lf 44 pc (oALd 0 45)) (nd 47 pc (lf 45 pc (oLdS 4 47)) (lf 47 pc (oCaV 2 3 S_X3_isWord 50))))) (nd 55 pc (nd 53 pc (lf 50 pc (oIfEq 55 53)) (nd 54 pc (lf 53 pc (oCst 4 54)) (lf 54 pc (oIRet)))) (nd 56 pc (lf 55 pc (oALd 0 56)) (nd 58 pc (lf 56 pc (oLdS 5 58)) (lf 58 pc (oCaV 2 3 S_X3_isWord 61)))))) (nd 69 pc (nd 65 pc (nd 64 pc (lf 61 pc (oIfEq 66 64)) (lf 64 pc (oCst 5 65))) (nd 66 pc (lf 65 pc (oIRet)) (nd 67 pc (lf 66 pc (oALd 0 67)) (lf 67 pc (oLdS 6 69))))) (nd 77 pc (nd 72 pc (lf 69 pc (oCaV 2 3 S_X3_isWord 72)) (nd 75 pc (lf 72 pc (oIfEq 80 75)) (lf 75 pc (oCst 6 77)))) (nd 80 pc (lf 77 pc (oGo 81)) (nd 81 pc (lf 80 pc (oCst (-1) 81)) (lf 81 pc (oIRet)))))))
theorem ok_X3_kindOfWord {l : Launch} {G : Gm} : ∀ pc, OkU (TXm l G (rmD 6) 1 cX3_kindOfWord RX3) (RXm l G (rmD 6) 1 cX3_kindOfWord RX3 (some .int)) pc (P_X3_kindOfWord pc) := fun pc => ok_nd (ok_nd (ok_nd (ok_nd (ok_nd (ok_lf (ok_ALdn d_X3_kindOfWord_0 rfl rfl)) (ok_lf (ok_LdS (tx := "disputant") d_X3_kindOfWord_1 (List.mem_of_getElem? (i := 0) rfl) rfl))) (ok_nd (ok_lf (ok_CaV su_X3_isWord (by decide) rfl d_X3_kindOfWord_3 q530 q532 z44 q4 q533 ⟨by decide +kernel, by decide +kernel, by decide +kernel⟩ ⟨by decide, by decide⟩ rfl)) (ok_nd (ok_lf (ok_IfEq d_X3_kindOfWord_6 (by decide) rfl)) (ok_lf (ok_ICst d_X3_kindOfWord_9 (by decide) rfl))))) (ok_nd (ok_nd (ok_lf (ok_IRet d_X3_kindOfWord_10)) (ok_nd (ok_lf (ok_ALdn d_X3_kindOfWord_11 rfl rfl)) (ok_lf (ok_LdS (tx := "aunt") d_X3_kindOfWord_12 (List.mem_of_getElem? (i := 1) rfl) rfl)))) (ok_nd (ok_lf (ok_CaV su_X3_isWord (by decide) rfl d_X3_kindOfWord_14 q530 q532 z44 q4 q533 ⟨by decide +kernel, by decide +kernel, by decide +kernel⟩ ⟨by decide, by decide⟩ rfl)) (ok_nd (ok_lf (ok_IfEq d_X3_kindOfWord_17 (by decide) rfl)) (ok_lf (ok_ICst d_X3_kindOfWord_20 (by decide) rfl)))))) (ok_nd (ok_nd (ok_nd (ok_lf (ok_IRet d_X3_kindOfWord_21)) (ok_lf (ok_ALdn d_X3_kindOfWord_22 rfl rfl))) (ok_nd (ok_lf (ok_LdS (tx := "lawyer") d_X3_kindOfWord_23 (List.mem_of_getElem? (i := 2) rfl) rfl)) (ok_nd (ok_lf (ok_CaV su_X3_isWord (by decide) rfl d_X3_kindOfWord_25 q530 q532 z44 q4 q533 ⟨by decide +kernel, by decide +kernel, by decide +kernel⟩ ⟨by decide, by decide⟩ rfl)) (ok_lf (ok_IfEq d_X3_kindOfWord_28 (by decide) rfl))))) (ok_nd (ok_nd (ok_lf (ok_ICst d_X3_kindOfWord_31 (by decide) rfl)) (ok_nd (ok_lf (ok_IRet d_X3_kindOfWord_32)) (ok_lf (ok_ALdn d_X3_kindOfWord_33 rfl rfl)))) (ok_nd (ok_lf (ok_LdS (tx := "parson") d_X3_kindOfWord_34 (List.mem_of_getElem? (i := 3) rfl) rfl)) (ok_nd (ok_lf (ok_CaV su_X3_isWord (by decide) rfl d_X3_kindOfWord_36 q530 q532 z44 q4 q533 ⟨by decide +kernel, by decide +kernel, by decide +kernel⟩ ⟨by decide, by decide⟩ rfl)) (ok_lf (ok_IfEq d_X3_kindOfWord_39 (by decide) rfl))))))) (ok_nd (ok_nd (ok_nd (ok_nd (ok_lf (ok_ICst d_X3_kindOfWord_42 (by decide) rfl)) (ok_lf (ok_IRet d_X3_kindOfWord_43))) (ok_nd (ok_lf (ok_ALdn d_X3_kindOfWord_44 rfl rfl)) (ok_nd (ok_lf (ok_LdS (tx := "bishop") d_X3_kindOfWord_45 (List.mem_of_getElem? (i := 4) rfl) rfl)) (ok_lf (ok_CaV su_X3_isWord (by decide) rfl d_X3_kindOfWord_47 q530 q532 z44 q4 q533 ⟨by decide +kernel, by decide +kernel, by decide +kernel⟩ ⟨by decide, by decide⟩ rfl))))) (ok_nd (ok_nd (ok_lf (ok_IfEq d_X3_kindOfWord_50 (by decide) rfl)) (ok_nd (ok_lf (ok_ICst d_X3_kindOfWord_53 (by decide) rfl)) (ok_lf (ok_IRet d_X3_kindOfWord_54)))) (ok_nd (ok_lf (ok_ALdn d_X3_kindOfWord_55 rfl rfl)) (ok_nd (ok_lf (ok_LdS (tx := "child") d_X3_kindOfWord_56 (List.mem_of_getElem? (i := 5) rfl) rfl)) (ok_lf (ok_CaV su_X3_isWord (by decide) rfl d_X3_kindOfWord_58 q530 q532 z44 q4 q533 ⟨by decide +kernel, by decide +kernel, by decide +kernel⟩ ⟨by decide, by decide⟩ rfl)))))) (ok_nd (ok_nd (ok_nd (ok_lf (ok_IfEq d_X3_kindOfWord_61 (by decide) rfl)) (ok_lf (ok_ICst d_X3_kindOfWord_64 (by decide) rfl))) (ok_nd (ok_lf (ok_IRet d_X3_kindOfWord_65)) (ok_nd (ok_lf (ok_ALdn d_X3_kindOfWord_66 rfl rfl)) (ok_lf (ok_LdS (tx := "twin") d_X3_kindOfWord_67 (List.mem_of_getElem? (i := 6) rfl) rfl))))) (ok_nd (ok_nd (ok_lf (ok_CaV su_X3_isWord (by decide) rfl d_X3_kindOfWord_69 q530 q532 z44 q4 q533 ⟨by decide +kernel, by decide +kernel, by decide +kernel⟩ ⟨by decide, by decide⟩ rfl)) (ok_nd (ok_lf (ok_IfEq d_X3_kindOfWord_72 (by decide) rfl)) (ok_lf (ok_BCst d_X3_kindOfWord_75 (by decide) rfl)))) (ok_nd (ok_lf (ok_Go d_X3_kindOfWord_77 (by decide))) (ok_nd (ok_lf (ok_ICst d_X3_kindOfWord_80 (by decide) rfl)) (ok_lf (ok_IRet d_X3_kindOfWord_81)))))))
noncomputable def S_X3_kindOfWord : Sem := lockS (inl P_X3_kindOfWord 46 1) 0
theorem su_X3_kindOfWord {l : Launch} {G : Gm} : SemU l G yX3_kindOfWord (wsOf yX3_kindOfWord cX3_kindOfWord 1 (some .int)) 6 S_X3_kindOfWord := sem_lock (sem_inl 46 (by decide +kernel) rfl ok_X3_kindOfWord)
theorem d_X3_readDisputant_0 : decode cX3_readDisputant 0 = .ok (.aload_n 1, 1) := by decide +kernel
theorem d_X3_readDisputant_1 : decode cX3_readDisputant 1 = .ok (.invokevirtual 81, 3) := by decide +kernel
theorem d_X3_readDisputant_4 : decode cX3_readDisputant 4 = .ok (.ifCond .eq 5, 3) := by decide +kernel
theorem d_X3_readDisputant_7 : decode cX3_readDisputant 7 = .ok (.iconst 0, 1) := by decide +kernel
theorem d_X3_readDisputant_8 : decode cX3_readDisputant 8 = .ok (.ireturn, 1) := by decide +kernel
theorem d_X3_readDisputant_9 : decode cX3_readDisputant 9 = .ok (.aload_n 1, 1) := by decide +kernel
theorem d_X3_readDisputant_10 : decode cX3_readDisputant 10 = .ok (.getfield 87, 3) := by decide +kernel
theorem d_X3_readDisputant_13 : decode cX3_readDisputant 13 = .ok (.aload_n 1, 1) := by decide +kernel
theorem d_X3_readDisputant_14 : decode cX3_readDisputant 14 = .ok (.iload_n 2, 1) := by decide +kernel
theorem d_X3_readDisputant_15 : decode cX3_readDisputant 15 = .ok (.bipush 50, 2) := by decide +kernel
theorem d_X3_readDisputant_17 : decode cX3_readDisputant 17 = .ok (.invokevirtual 91, 3) := by decide +kernel
theorem d_X3_readDisputant_20 : decode cX3_readDisputant 20 = .ok (.aaload, 1) := by decide +kernel
theorem d_X3_readDisputant_21 : decode cX3_readDisputant 21 = .ok (.astore_n 3, 1) := by decide +kernel
theorem d_X3_readDisputant_22 : decode cX3_readDisputant 22 = .ok (.aload_n 0, 1) := by decide +kernel
theorem d_X3_readDisputant_23 : decode cX3_readDisputant 23 = .ok (.invokevirtual 31, 3) := by decide +kernel
theorem d_X3_readDisputant_26 : decode cX3_readDisputant 26 = .ok (.aload_n 0, 1) := by decide +kernel
theorem d_X3_readDisputant_27 : decode cX3_readDisputant 27 = .ok (.ldc 95, 2) := by decide +kernel
theorem d_X3_readDisputant_29 : decode cX3_readDisputant 29 = .ok (.invokevirtual 48, 3) := by decide +kernel
theorem d_X3_readDisputant_32 : decode cX3_readDisputant 32 = .ok (.ifCond .eq 27, 3) := by decide +kernel
theorem d_X3_readDisputant_35 : decode cX3_readDisputant 35 = .ok (.aload_n 0, 1) := by decide +kernel
theorem d_X3_readDisputant_36 : decode cX3_readDisputant 36 = .ok (.iconst 0, 1) := by decide +kernel
theorem d_X3_readDisputant_37 : decode cX3_readDisputant 37 = .ok (.bipush 99, 2) := by decide +kernel
theorem d_X3_readDisputant_39 : decode cX3_readDisputant 39 = .ok (.invokevirtual 97, 3) := by decide +kernel
theorem d_X3_readDisputant_42 : decode cX3_readDisputant 42 = .ok (.ifCond .ne 5, 3) := by decide +kernel
theorem d_X3_readDisputant_45 : decode cX3_readDisputant 45 = .ok (.iconst 0, 1) := by decide +kernel
theorem d_X3_readDisputant_46 : decode cX3_readDisputant 46 = .ok (.ireturn, 1) := by decide +kernel
theorem d_X3_readDisputant_47 : decode cX3_readDisputant 47 = .ok (.aload_n 3, 1) := by decide +kernel
theorem d_X3_readDisputant_48 : decode cX3_readDisputant 48 = .ok (.aload_n 0, 1) := by decide +kernel
theorem d_X3_readDisputant_49 : decode cX3_readDisputant 49 = .ok (.getfield 28, 3) := by decide +kernel
theorem d_X3_readDisputant_52 : decode cX3_readDisputant 52 = .ok (.putfield 101, 3) := by decide +kernel
theorem d_X3_readDisputant_55 : decode cX3_readDisputant 55 = .ok (.aload_n 0, 1) := by decide +kernel
theorem d_X3_readDisputant_56 : decode cX3_readDisputant 56 = .ok (.invokevirtual 31, 3) := by decide +kernel
theorem d_X3_readDisputant_59 : decode cX3_readDisputant 59 = .ok (.aload_n 0, 1) := by decide +kernel
theorem d_X3_readDisputant_60 : decode cX3_readDisputant 60 = .ok (.ldc 103, 2) := by decide +kernel
theorem d_X3_readDisputant_62 : decode cX3_readDisputant 62 = .ok (.invokevirtual 48, 3) := by decide +kernel
theorem d_X3_readDisputant_65 : decode cX3_readDisputant 65 = .ok (.ifCond .eq 27, 3) := by decide +kernel
theorem d_X3_readDisputant_68 : decode cX3_readDisputant 68 = .ok (.aload_n 0, 1) := by decide +kernel
theorem d_X3_readDisputant_69 : decode cX3_readDisputant 69 = .ok (.iconst 0, 1) := by decide +kernel
theorem d_X3_readDisputant_70 : decode cX3_readDisputant 70 = .ok (.bipush 99, 2) := by decide +kernel
theorem d_X3_readDisputant_72 : decode cX3_readDisputant 72 = .ok (.invokevirtual 97, 3) := by decide +kernel
theorem d_X3_readDisputant_75 : decode cX3_readDisputant 75 = .ok (.ifCond .ne 5, 3) := by decide +kernel
theorem d_X3_readDisputant_78 : decode cX3_readDisputant 78 = .ok (.iconst 0, 1) := by decide +kernel
theorem d_X3_readDisputant_79 : decode cX3_readDisputant 79 = .ok (.ireturn, 1) := by decide +kernel
theorem d_X3_readDisputant_80 : decode cX3_readDisputant 80 = .ok (.aload_n 3, 1) := by decide +kernel
theorem d_X3_readDisputant_81 : decode cX3_readDisputant 81 = .ok (.aload_n 0, 1) := by decide +kernel
theorem d_X3_readDisputant_82 : decode cX3_readDisputant 82 = .ok (.getfield 28, 3) := by decide +kernel
theorem d_X3_readDisputant_85 : decode cX3_readDisputant 85 = .ok (.putfield 105, 3) := by decide +kernel
theorem d_X3_readDisputant_88 : decode cX3_readDisputant 88 = .ok (.aload_n 0, 1) := by decide +kernel
theorem d_X3_readDisputant_89 : decode cX3_readDisputant 89 = .ok (.invokevirtual 31, 3) := by decide +kernel
theorem d_X3_readDisputant_92 : decode cX3_readDisputant 92 = .ok (.aload_n 0, 1) := by decide +kernel
theorem d_X3_readDisputant_93 : decode cX3_readDisputant 93 = .ok (.ldc 107, 2) := by decide +kernel
theorem d_X3_readDisputant_95 : decode cX3_readDisputant 95 = .ok (.invokevirtual 48, 3) := by decide +kernel
theorem d_X3_readDisputant_98 : decode cX3_readDisputant 98 = .ok (.ifCond .eq 12, 3) := by decide +kernel
theorem d_X3_readDisputant_101 : decode cX3_readDisputant 101 = .ok (.aload_n 3, 1) := by decide +kernel
theorem d_X3_readDisputant_102 : decode cX3_readDisputant 102 = .ok (.iconst 1, 1) := by decide +kernel
theorem d_X3_readDisputant_103 : decode cX3_readDisputant 103 = .ok (.putfield 109, 3) := by decide +kernel
theorem d_X3_readDisputant_106 : decode cX3_readDisputant 106 = .ok (.aload_n 0, 1) := by decide +kernel
theorem d_X3_readDisputant_107 : decode cX3_readDisputant 107 = .ok (.invokevirtual 31, 3) := by decide +kernel
theorem d_X3_readDisputant_110 : decode cX3_readDisputant 110 = .ok (.iconst 1, 1) := by decide +kernel
theorem d_X3_readDisputant_111 : decode cX3_readDisputant 111 = .ok (.ireturn, 1) := by decide +kernel
noncomputable def P_X3_readDisputant : Nat → Op := fun pc => nd 55 pc (nd 26 pc (nd 13 pc (nd 7 pc (nd 1 pc (lf 0 pc (oALd 1 1)) (nd 4 pc (lf 1 pc (oCaV 1 0 S_X0_isFull 4)) (lf 4 pc (oIfEq 9 7)))) (nd 9 pc (nd 8 pc (lf 7 pc (oCst 0 8)) (lf 8 pc (oZRet))) (nd 10 pc (lf 9 pc (oALd 1 10)) (lf 10 pc (oGetR 0 8 13))))) (nd 20 pc (nd 15 pc (nd 14 pc (lf 13 pc (oALd 1 14)) (lf 14 pc (oILd 2 15))) (nd 17 pc (lf 15 pc (oCst 50 17)) (lf 17 pc (oCaV 3 0 S_X0_admit 20)))) (nd 22 pc (nd 21 pc (lf 20 pc (oAAL 7 21)) (lf 21 pc (oASt 3 22))) (nd 23 pc (lf 22 pc (oALd 0 23)) (lf 23 pc (oCaV 1 3 S_X3_step 26)))))) (nd 39 pc (nd 32 pc (nd 27 pc (lf 26 pc (oALd 0 27)) (nd 29 pc (lf 27 pc (oLdS 10 29)) (lf 29 pc (oCaV 2 3 S_X3_isWord 32)))) (nd 36 pc (nd 35 pc (lf 32 pc (oIfEq 59 35)) (lf 35 pc (oALd 0 36))) (nd 37 pc (lf 36 pc (oCst 0 37)) (lf 37 pc (oCst 99 39))))) (nd 47 pc (nd 45 pc (nd 42 pc (lf 39 pc (oCaV 3 3 S_X3_stepsToNumber 42)) (lf 42 pc (oIfEq 45 47))) (nd 46 pc (lf 45 pc (oCst 0 46)) (lf 46 pc (oZRet)))) (nd 49 pc (nd 48 pc (lf 47 pc (oALd 3 48)) (lf 48 pc (oALd 0 49))) (nd 52 pc (lf 49 pc (oGetI 3 5 52)) (lf 52 pc (oPutI 1 1 55))))))) (nd 82 pc (nd 69 pc (nd 60 pc (nd 56 pc (lf 55 pc (oALd 0 56)) (nd 59 pc (lf 56 pc (oCaV 1 3 S_X3_step 59)) (lf 59 pc (oALd 0 60)))) (nd 65 pc (nd 62 pc (lf 60 pc (oLdS 11 62)) (lf 62 pc (oCaV 2 3 S_X3_isWord 65))) (nd 68 pc (lf 65 pc (oIfEq 92 68)) (lf 68 pc (oALd 0 69))))) (nd 78 pc (nd 72 pc (nd 70 pc (lf 69 pc (oCst 0 70)) (lf 70 pc (oCst 99 72))) (nd 75 pc (lf 72 pc (oCaV 3 3 S_X3_stepsToNumber 75)) (lf 75 pc (oIfEq 78 80)))) (nd 80 pc (nd 79 pc (lf 78 pc (oCst 0 79)) (lf 79 pc (oZRet))) (nd 81 pc (lf 80 pc (oALd 3 81)) (lf 81 pc (oALd 0 82)))))) (nd 98 pc (nd 89 pc (nd 85 pc (lf 82 pc (oGetI 3 5 85)) (nd 88 pc (lf 85 pc (oPutI 1 2 88)) (lf 88 pc (oALd 0 89)))) (nd 93 pc (nd 92 pc (lf 89 pc (oCaV 1 3 S_X3_step 92)) (lf 92 pc (oALd 0 93))) (nd 95 pc (lf 93 pc (oLdS 12 95)) (lf 95 pc (oCaV 2 3 S_X3_isWord 98))))) (nd 106 pc (nd 102 pc (nd 101 pc (lf 98 pc (oIfEq 110 101)) (lf 101 pc (oALd 3 102))) (nd 103 pc (lf 102 pc (oCst 1 103)) (lf 103 pc (oPutI 1 5 106)))) (nd 110 pc (nd 107 pc (lf 106 pc (oALd 0 107)) (lf 107 pc (oCaV 1 3 S_X3_step 110))) (nd 111 pc (lf 110 pc (oCst 1 111)) (lf 111 pc (oZRet)))))))
theorem ok_X3_readDisputant {l : Launch} {G : Gm} : ∀ pc, OkU (TXm l G (rmD 6) 4 cX3_readDisputant RX3) (RXm l G (rmD 6) 4 cX3_readDisputant RX3 (some .boolean)) pc (P_X3_readDisputant pc) := fun pc => ok_nd (ok_nd (ok_nd (ok_nd (ok_nd (ok_lf (ok_ALdn d_X3_readDisputant_0 rfl rfl)) (ok_nd (ok_lf (ok_CaVN su_X0_isFull (by decide) rfl d_X3_readDisputant_1 q592 q212 z1 q2 q213 ⟨by decide +kernel, by decide +kernel, by decide +kernel⟩ ⟨by decide, by decide⟩ rfl)) (ok_lf (ok_IfEq d_X3_readDisputant_4 (by decide) rfl)))) (ok_nd (ok_nd (ok_lf (ok_ICst d_X3_readDisputant_7 (by decide) rfl)) (ok_lf (ok_ZRet d_X3_readDisputant_8))) (ok_nd (ok_lf (ok_ALdn d_X3_readDisputant_9 rfl rfl)) (ok_lf (ok_GetRN (by decide) (by decide) rfl d_X3_readDisputant_10 q87 rfl))))) (ok_nd (ok_nd (ok_nd (ok_lf (ok_ALdn d_X3_readDisputant_13 rfl rfl)) (ok_lf (ok_ILdn d_X3_readDisputant_14 rfl rfl))) (ok_nd (ok_lf (ok_BCst d_X3_readDisputant_15 (by decide) rfl)) (ok_lf (ok_CaVN su_X0_admit (by decide) rfl d_X3_readDisputant_17 q593 q217 z2 q2 q218 ⟨by decide +kernel, by decide +kernel, by decide +kernel⟩ ⟨by decide, by decide⟩ rfl)))) (ok_nd (ok_nd (ok_lf (ok_AAL (by decide) (by decide) d_X3_readDisputant_20 rfl)) (ok_lf (ok_AStn d_X3_readDisputant_21 rfl rfl))) (ok_nd (ok_lf (ok_ALdn d_X3_readDisputant_22 rfl rfl)) (ok_lf (ok_CaV su_X3_step (by decide) rfl d_X3_readDisputant_23 q510 q512 z41 q4 q513 ⟨by decide +kernel, by decide +kernel, by decide +kernel⟩ ⟨by decide, by decide⟩ rfl)))))) (ok_nd (ok_nd (ok_nd (ok_lf (ok_ALdn d_X3_readDisputant_26 rfl rfl)) (ok_nd (ok_lf (ok_LdS (tx := "cause") d_X3_readDisputant_27 (List.mem_of_getElem? (i := 7) rfl) rfl)) (ok_lf (ok_CaV su_X3_isWord (by decide) rfl d_X3_readDisputant_29 q530 q532 z44 q4 q533 ⟨by decide +kernel, by decide +kernel, by decide +kernel⟩ ⟨by decide, by decide⟩ rfl)))) (ok_nd (ok_nd (ok_lf (ok_IfEq d_X3_readDisputant_32 (by decide) rfl)) (ok_lf (ok_ALdn d_X3_readDisputant_35 rfl rfl))) (ok_nd (ok_lf (ok_ICst d_X3_readDisputant_36 (by decide) rfl)) (ok_lf (ok_BCst d_X3_readDisputant_37 (by decide) rfl))))) (ok_nd (ok_nd (ok_nd (ok_lf (ok_CaV su_X3_stepsToNumber (by decide) rfl d_X3_readDisputant_39 q595 q597 z46 q4 q598 ⟨by decide +kernel, by decide +kernel, by decide +kernel⟩ ⟨by decide, by decide⟩ rfl)) (ok_lf (ok_IfNe d_X3_readDisputant_42 (by decide) rfl))) (ok_nd (ok_lf (ok_ICst d_X3_readDisputant_45 (by decide) rfl)) (ok_lf (ok_ZRet d_X3_readDisputant_46)))) (ok_nd (ok_nd (ok_lf (ok_ALdn d_X3_readDisputant_47 rfl rfl)) (ok_lf (ok_ALdn d_X3_readDisputant_48 rfl rfl))) (ok_nd (ok_lf (ok_GetI (by decide) (by decide) rfl d_X3_readDisputant_49 q120 rfl)) (ok_lf (ok_PutIN (by decide) (by decide) rfl rfl (by decide +kernel) d_X3_readDisputant_52 q38 rfl))))))) (ok_nd (ok_nd (ok_nd (ok_nd (ok_lf (ok_ALdn d_X3_readDisputant_55 rfl rfl)) (ok_nd (ok_lf (ok_CaV su_X3_step (by decide) rfl d_X3_readDisputant_56 q510 q512 z41 q4 q513 ⟨by decide +kernel, by decide +kernel, by decide +kernel⟩ ⟨by decide, by decide⟩ rfl)) (ok_lf (ok_ALdn d_X3_readDisputant_59 rfl rfl)))) (ok_nd (ok_nd (ok_lf (ok_LdS (tx := "temper") d_X3_readDisputant_60 (List.mem_of_getElem? (i := 8) rfl) rfl)) (ok_lf (ok_CaV su_X3_isWord (by decide) rfl d_X3_readDisputant_62 q530 q532 z44 q4 q533 ⟨by decide +kernel, by decide +kernel, by decide +kernel⟩ ⟨by decide, by decide⟩ rfl))) (ok_nd (ok_lf (ok_IfEq d_X3_readDisputant_65 (by decide) rfl)) (ok_lf (ok_ALdn d_X3_readDisputant_68 rfl rfl))))) (ok_nd (ok_nd (ok_nd (ok_lf (ok_ICst d_X3_readDisputant_69 (by decide) rfl)) (ok_lf (ok_BCst d_X3_readDisputant_70 (by decide) rfl))) (ok_nd (ok_lf (ok_CaV su_X3_stepsToNumber (by decide) rfl d_X3_readDisputant_72 q595 q597 z46 q4 q598 ⟨by decide +kernel, by decide +kernel, by decide +kernel⟩ ⟨by decide, by decide⟩ rfl)) (ok_lf (ok_IfNe d_X3_readDisputant_75 (by decide) rfl)))) (ok_nd (ok_nd (ok_lf (ok_ICst d_X3_readDisputant_78 (by decide) rfl)) (ok_lf (ok_ZRet d_X3_readDisputant_79))) (ok_nd (ok_lf (ok_ALdn d_X3_readDisputant_80 rfl rfl)) (ok_lf (ok_ALdn d_X3_readDisputant_81 rfl rfl)))))) (ok_nd (ok_nd (ok_nd (ok_lf (ok_GetI (by decide) (by decide) rfl d_X3_readDisputant_82 q120 rfl)) (ok_nd (ok_lf (ok_PutIN (by decide) (by decide) rfl rfl (by decide +kernel) d_X3_readDisputant_85 q41 rfl)) (ok_lf (ok_ALdn d_X3_readDisputant_88 rfl rfl)))) (ok_nd (ok_nd (ok_lf (ok_CaV su_X3_step (by decide) rfl d_X3_readDisputant_89 q510 q512 z41 q4 q513 ⟨by decide +kernel, by decide +kernel, by decide +kernel⟩ ⟨by decide, by decide⟩ rfl)) (ok_lf (ok_ALdn d_X3_readDisputant_92 rfl rfl))) (ok_nd (ok_lf (ok_LdS (tx := "silent") d_X3_readDisputant_93 (List.mem_of_getElem? (i := 9) rfl) rfl)) (ok_lf (ok_CaV su_X3_isWord (by decide) rfl d_X3_readDisputant_95 q530 q532 z44 q4 q533 ⟨by decide +kernel, by decide +kernel, by decide +kernel⟩ ⟨by decide, by decide⟩ rfl))))) (ok_nd (ok_nd (ok_nd (ok_lf (ok_IfEq d_X3_readDisputant_98 (by decide) rfl)) (ok_lf (ok_ALdn d_X3_readDisputant_101 rfl rfl))) (ok_nd (ok_lf (ok_ICst d_X3_readDisputant_102 (by decide) rfl)) (ok_lf (ok_PutIN (by decide) (by decide) rfl rfl (by decide +kernel) d_X3_readDisputant_103 q51 rfl)))) (ok_nd (ok_nd (ok_lf (ok_ALdn d_X3_readDisputant_106 rfl rfl)) (ok_lf (ok_CaV su_X3_step (by decide) rfl d_X3_readDisputant_107 q510 q512 z41 q4 q513 ⟨by decide +kernel, by decide +kernel, by decide +kernel⟩ ⟨by decide, by decide⟩ rfl))) (ok_nd (ok_lf (ok_ICst d_X3_readDisputant_110 (by decide) rfl)) (ok_lf (ok_ZRet d_X3_readDisputant_111)))))))
noncomputable def S_X3_readDisputant : Sem := lockS (inl P_X3_readDisputant 62 4) 0
theorem su_X3_readDisputant {l : Launch} {G : Gm} : SemU l G yX3_readDisputant (wsOf yX3_readDisputant cX3_readDisputant 4 (some .boolean)) 6 S_X3_readDisputant := sem_lock (sem_inl 62 (by decide +kernel) rfl ok_X3_readDisputant)
theorem d_X3_readDispute_0 : decode cX3_readDispute 0 = .ok (.aload_n 0, 1) := by decide +kernel
theorem d_X3_readDispute_1 : decode cX3_readDispute 1 = .ok (.iconst 0, 1) := by decide +kernel
theorem d_X3_readDispute_2 : decode cX3_readDispute 2 = .ok (.iconst 5, 1) := by decide +kernel
theorem d_X3_readDispute_3 : decode cX3_readDispute 3 = .ok (.invokevirtual 97, 3) := by decide +kernel
theorem d_X3_readDispute_6 : decode cX3_readDispute 6 = .ok (.ifCond .ne 5, 3) := by decide +kernel
theorem d_X3_readDispute_9 : decode cX3_readDispute 9 = .ok (.iconst 0, 1) := by decide +kernel
theorem d_X3_readDispute_10 : decode cX3_readDispute 10 = .ok (.ireturn, 1) := by decide +kernel
theorem d_X3_readDispute_11 : decode cX3_readDispute 11 = .ok (.aload_n 0, 1) := by decide +kernel
theorem d_X3_readDispute_12 : decode cX3_readDispute 12 = .ok (.getfield 28, 3) := by decide +kernel
theorem d_X3_readDispute_15 : decode cX3_readDispute 15 = .ok (.istore_n 2, 1) := by decide +kernel
theorem d_X3_readDispute_16 : decode cX3_readDispute 16 = .ok (.aload_n 0, 1) := by decide +kernel
theorem d_X3_readDispute_17 : decode cX3_readDispute 17 = .ok (.iconst 0, 1) := by decide +kernel
theorem d_X3_readDispute_18 : decode cX3_readDispute 18 = .ok (.bipush 7, 2) := by decide +kernel
theorem d_X3_readDispute_20 : decode cX3_readDispute 20 = .ok (.invokevirtual 97, 3) := by decide +kernel
theorem d_X3_readDispute_23 : decode cX3_readDispute 23 = .ok (.ifCond .ne 5, 3) := by decide +kernel
theorem d_X3_readDispute_26 : decode cX3_readDispute 26 = .ok (.iconst 0, 1) := by decide +kernel
theorem d_X3_readDispute_27 : decode cX3_readDispute 27 = .ok (.ireturn, 1) := by decide +kernel
theorem d_X3_readDispute_28 : decode cX3_readDispute 28 = .ok (.aload_n 0, 1) := by decide +kernel
theorem d_X3_readDispute_29 : decode cX3_readDispute 29 = .ok (.getfield 28, 3) := by decide +kernel
theorem d_X3_readDispute_32 : decode cX3_readDispute 32 = .ok (.istore_n 3, 1) := by decide +kernel
theorem d_X3_readDispute_33 : decode cX3_readDispute 33 = .ok (.aload_n 0, 1) := by decide +kernel
theorem d_X3_readDispute_34 : decode cX3_readDispute 34 = .ok (.iconst 0, 1) := by decide +kernel
theorem d_X3_readDispute_35 : decode cX3_readDispute 35 = .ok (.bipush 7, 2) := by decide +kernel
theorem d_X3_readDispute_37 : decode cX3_readDispute 37 = .ok (.invokevirtual 97, 3) := by decide +kernel
theorem d_X3_readDispute_40 : decode cX3_readDispute 40 = .ok (.ifCond .ne 5, 3) := by decide +kernel
theorem d_X3_readDispute_43 : decode cX3_readDispute 43 = .ok (.iconst 0, 1) := by decide +kernel
theorem d_X3_readDispute_44 : decode cX3_readDispute 44 = .ok (.ireturn, 1) := by decide +kernel
theorem d_X3_readDispute_45 : decode cX3_readDispute 45 = .ok (.aload_n 1, 1) := by decide +kernel
theorem d_X3_readDispute_46 : decode cX3_readDispute 46 = .ok (.getfield 111, 3) := by decide +kernel
theorem d_X3_readDispute_49 : decode cX3_readDispute 49 = .ok (.iload_n 2, 1) := by decide +kernel
theorem d_X3_readDispute_50 : decode cX3_readDispute 50 = .ok (.bipush 10, 2) := by decide +kernel
theorem d_X3_readDispute_52 : decode cX3_readDispute 52 = .ok (.iload_n 3, 1) := by decide +kernel
theorem d_X3_readDispute_53 : decode cX3_readDispute 53 = .ok (.imul, 1) := by decide +kernel
theorem d_X3_readDispute_54 : decode cX3_readDispute 54 = .ok (.aload_n 0, 1) := by decide +kernel
theorem d_X3_readDispute_55 : decode cX3_readDispute 55 = .ok (.getfield 28, 3) := by decide +kernel
theorem d_X3_readDispute_58 : decode cX3_readDispute 58 = .ok (.iadd, 1) := by decide +kernel
theorem d_X3_readDispute_59 : decode cX3_readDispute 59 = .ok (.iastore, 1) := by decide +kernel
theorem d_X3_readDispute_60 : decode cX3_readDispute 60 = .ok (.aload_n 0, 1) := by decide +kernel
theorem d_X3_readDispute_61 : decode cX3_readDispute 61 = .ok (.invokevirtual 31, 3) := by decide +kernel
theorem d_X3_readDispute_64 : decode cX3_readDispute 64 = .ok (.iconst 1, 1) := by decide +kernel
theorem d_X3_readDispute_65 : decode cX3_readDispute 65 = .ok (.ireturn, 1) := by decide +kernel
noncomputable def P_X3_readDispute : Nat → Op := fun pc => nd 33 pc (nd 16 pc (nd 9 pc (nd 2 pc (nd 1 pc (lf 0 pc (oALd 0 1)) (lf 1 pc (oCst 0 2))) (nd 3 pc (lf 2 pc (oCst 5 3)) (nd 6 pc (lf 3 pc (oCaV 3 3 S_X3_stepsToNumber 6)) (lf 6 pc (oIfEq 9 11))))) (nd 11 pc (nd 10 pc (lf 9 pc (oCst 0 10)) (lf 10 pc (oZRet))) (nd 12 pc (lf 11 pc (oALd 0 12)) (nd 15 pc (lf 12 pc (oGetI 3 5 15)) (lf 15 pc (oISt 2 16)))))) (nd 26 pc (nd 18 pc (nd 17 pc (lf 16 pc (oALd 0 17)) (lf 17 pc (oCst 0 18))) (nd 20 pc (lf 18 pc (oCst 7 20)) (nd 23 pc (lf 20 pc (oCaV 3 3 S_X3_stepsToNumber 23)) (lf 23 pc (oIfEq 26 28))))) (nd 28 pc (nd 27 pc (lf 26 pc (oCst 0 27)) (lf 27 pc (oZRet))) (nd 29 pc (lf 28 pc (oALd 0 29)) (nd 32 pc (lf 29 pc (oGetI 3 5 32)) (lf 32 pc (oISt 3 33))))))) (nd 50 pc (nd 43 pc (nd 35 pc (nd 34 pc (lf 33 pc (oALd 0 34)) (lf 34 pc (oCst 0 35))) (nd 37 pc (lf 35 pc (oCst 7 37)) (nd 40 pc (lf 37 pc (oCaV 3 3 S_X3_stepsToNumber 40)) (lf 40 pc (oIfEq 43 45))))) (nd 45 pc (nd 44 pc (lf 43 pc (oCst 0 44)) (lf 44 pc (oZRet))) (nd 46 pc (lf 45 pc (oALd 1 46)) (nd 49 pc (lf 46 pc (oGetR 0 5 49)) (lf 49 pc (oILd 2 50)))))) (nd 58 pc (nd 53 pc (nd 52 pc (lf 50 pc (oCst 10 52)) (lf 52 pc (oILd 3 53))) (nd 54 pc (lf 53 pc (oBin (fun x y => x * y) 54)) (nd 55 pc (lf 54 pc (oALd 0 55)) (lf 55 pc (oGetI 3 5 58))))) (nd 61 pc (nd 59 pc (lf 58 pc (oBin (fun x y => x + y) 59)) (nd 60 pc (lf 59 pc (oIAS 60)) (lf 60 pc (oALd 0 61)))) (nd 64 pc (lf 61 pc (oCaV 1 3 S_X3_step 64)) (nd 65 pc (lf 64 pc (oCst 1 65)) (lf 65 pc (oZRet)))))))
theorem ok_X3_readDispute {l : Launch} {G : Gm} : ∀ pc, OkU (TXm l G (rmD 4) 4 cX3_readDispute RX3) (RXm l G (rmD 4) 4 cX3_readDispute RX3 (some .boolean)) pc (P_X3_readDispute pc) := fun pc => ok_nd (ok_nd (ok_nd (ok_nd (ok_nd (ok_lf (ok_ALdn d_X3_readDispute_0 rfl rfl)) (ok_lf (ok_ICst d_X3_readDispute_1 (by decide) rfl))) (ok_nd (ok_lf (ok_ICst d_X3_readDispute_2 (by decide) rfl)) (ok_nd (ok_lf (ok_CaV su_X3_stepsToNumber (by decide) rfl d_X3_readDispute_3 q595 q597 z46 q4 q598 ⟨by decide +kernel, by decide +kernel, by decide +kernel⟩ ⟨by decide, by decide⟩ rfl)) (ok_lf (ok_IfNe d_X3_readDispute_6 (by decide) rfl))))) (ok_nd (ok_nd (ok_lf (ok_ICst d_X3_readDispute_9 (by decide) rfl)) (ok_lf (ok_ZRet d_X3_readDispute_10))) (ok_nd (ok_lf (ok_ALdn d_X3_readDispute_11 rfl rfl)) (ok_nd (ok_lf (ok_GetI (by decide) (by decide) rfl d_X3_readDispute_12 q120 rfl)) (ok_lf (ok_IStn d_X3_readDispute_15 rfl rfl)))))) (ok_nd (ok_nd (ok_nd (ok_lf (ok_ALdn d_X3_readDispute_16 rfl rfl)) (ok_lf (ok_ICst d_X3_readDispute_17 (by decide) rfl))) (ok_nd (ok_lf (ok_BCst d_X3_readDispute_18 (by decide) rfl)) (ok_nd (ok_lf (ok_CaV su_X3_stepsToNumber (by decide) rfl d_X3_readDispute_20 q595 q597 z46 q4 q598 ⟨by decide +kernel, by decide +kernel, by decide +kernel⟩ ⟨by decide, by decide⟩ rfl)) (ok_lf (ok_IfNe d_X3_readDispute_23 (by decide) rfl))))) (ok_nd (ok_nd (ok_lf (ok_ICst d_X3_readDispute_26 (by decide) rfl)) (ok_lf (ok_ZRet d_X3_readDispute_27))) (ok_nd (ok_lf (ok_ALdn d_X3_readDispute_28 rfl rfl)) (ok_nd (ok_lf (ok_GetI (by decide) (by decide) rfl d_X3_readDispute_29 q120 rfl)) (ok_lf (ok_IStn d_X3_readDispute_32 rfl rfl))))))) (ok_nd (ok_nd (ok_nd (ok_nd (ok_lf (ok_ALdn d_X3_readDispute_33 rfl rfl)) (ok_lf (ok_ICst d_X3_readDispute_34 (by decide) rfl))) (ok_nd (ok_lf (ok_BCst d_X3_readDispute_35 (by decide) rfl)) (ok_nd (ok_lf (ok_CaV su_X3_stepsToNumber (by decide) rfl d_X3_readDispute_37 q595 q597 z46 q4 q598 ⟨by decide +kernel, by decide +kernel, by decide +kernel⟩ ⟨by decide, by decide⟩ rfl)) (ok_lf (ok_IfNe d_X3_readDispute_40 (by decide) rfl))))) (ok_nd (ok_nd (ok_lf (ok_ICst d_X3_readDispute_43 (by decide) rfl)) (ok_lf (ok_ZRet d_X3_readDispute_44))) (ok_nd (ok_lf (ok_ALdn d_X3_readDispute_45 rfl rfl)) (ok_nd (ok_lf (ok_GetRN (by decide) (by decide) rfl d_X3_readDispute_46 q81 rfl)) (ok_lf (ok_ILdn d_X3_readDispute_49 rfl rfl)))))) (ok_nd (ok_nd (ok_nd (ok_lf (ok_BCst d_X3_readDispute_50 (by decide) rfl)) (ok_lf (ok_ILdn d_X3_readDispute_52 rfl rfl))) (ok_nd (ok_lf (ok_imul d_X3_readDispute_53 rfl)) (ok_nd (ok_lf (ok_ALdn d_X3_readDispute_54 rfl rfl)) (ok_lf (ok_GetI (by decide) (by decide) rfl d_X3_readDispute_55 q120 rfl))))) (ok_nd (ok_nd (ok_lf (ok_iadd d_X3_readDispute_58 rfl)) (ok_nd (ok_lf (ok_IAS d_X3_readDispute_59 rfl)) (ok_lf (ok_ALdn d_X3_readDispute_60 rfl rfl)))) (ok_nd (ok_lf (ok_CaV su_X3_step (by decide) rfl d_X3_readDispute_61 q510 q512 z41 q4 q513 ⟨by decide +kernel, by decide +kernel, by decide +kernel⟩ ⟨by decide, by decide⟩ rfl)) (ok_nd (ok_lf (ok_ICst d_X3_readDispute_64 (by decide) rfl)) (ok_lf (ok_ZRet d_X3_readDispute_65)))))))
noncomputable def S_X3_readDispute : Sem := lockS (inl P_X3_readDispute 43 4) 0
theorem su_X3_readDispute {l : Launch} {G : Gm} : SemU l G yX3_readDispute (wsOf yX3_readDispute cX3_readDispute 4 (some .boolean)) 4 S_X3_readDispute := sem_lock (sem_inl 43 (by decide +kernel) rfl ok_X3_readDispute)
theorem d_X3_readHeight_0 : decode cX3_readHeight 0 = .ok (.aload_n 0, 1) := by decide +kernel
theorem d_X3_readHeight_1 : decode cX3_readHeight 1 = .ok (.iconst 1, 1) := by decide +kernel
theorem d_X3_readHeight_2 : decode cX3_readHeight 2 = .ok (.bipush 60, 2) := by decide +kernel
theorem d_X3_readHeight_4 : decode cX3_readHeight 4 = .ok (.invokevirtual 97, 3) := by decide +kernel
theorem d_X3_readHeight_7 : decode cX3_readHeight 7 = .ok (.ifCond .ne 5, 3) := by decide +kernel
theorem d_X3_readHeight_10 : decode cX3_readHeight 10 = .ok (.iconst 0, 1) := by decide +kernel
theorem d_X3_readHeight_11 : decode cX3_readHeight 11 = .ok (.ireturn, 1) := by decide +kernel
theorem d_X3_readHeight_12 : decode cX3_readHeight 12 = .ok (.aload_n 1, 1) := by decide +kernel
theorem d_X3_readHeight_13 : decode cX3_readHeight 13 = .ok (.aload_n 0, 1) := by decide +kernel
theorem d_X3_readHeight_14 : decode cX3_readHeight 14 = .ok (.getfield 28, 3) := by decide +kernel
theorem d_X3_readHeight_17 : decode cX3_readHeight 17 = .ok (.putfield 114, 3) := by decide +kernel
theorem d_X3_readHeight_20 : decode cX3_readHeight 20 = .ok (.aload_n 0, 1) := by decide +kernel
theorem d_X3_readHeight_21 : decode cX3_readHeight 21 = .ok (.invokevirtual 31, 3) := by decide +kernel
theorem d_X3_readHeight_24 : decode cX3_readHeight 24 = .ok (.iconst 1, 1) := by decide +kernel
theorem d_X3_readHeight_25 : decode cX3_readHeight 25 = .ok (.ireturn, 1) := by decide +kernel
noncomputable def P_X3_readHeight : Nat → Op := fun pc => nd 12 pc (nd 4 pc (nd 1 pc (lf 0 pc (oALd 0 1)) (nd 2 pc (lf 1 pc (oCst 1 2)) (lf 2 pc (oCst 60 4)))) (nd 10 pc (nd 7 pc (lf 4 pc (oCaV 3 3 S_X3_stepsToNumber 7)) (lf 7 pc (oIfEq 10 12))) (nd 11 pc (lf 10 pc (oCst 0 11)) (lf 11 pc (oZRet))))) (nd 20 pc (nd 14 pc (nd 13 pc (lf 12 pc (oALd 1 13)) (lf 13 pc (oALd 0 14))) (nd 17 pc (lf 14 pc (oGetI 3 5 17)) (lf 17 pc (oPutI 0 0 20)))) (nd 24 pc (nd 21 pc (lf 20 pc (oALd 0 21)) (lf 21 pc (oCaV 1 3 S_X3_step 24))) (nd 25 pc (lf 24 pc (oCst 1 25)) (lf 25 pc (oZRet)))))
theorem ok_X3_readHeight {l : Launch} {G : Gm} : ∀ pc, OkU (TXm l G (rmD 4) 2 cX3_readHeight RX3) (RXm l G (rmD 4) 2 cX3_readHeight RX3 (some .boolean)) pc (P_X3_readHeight pc) := fun pc => ok_nd (ok_nd (ok_nd (ok_lf (ok_ALdn d_X3_readHeight_0 rfl rfl)) (ok_nd (ok_lf (ok_ICst d_X3_readHeight_1 (by decide) rfl)) (ok_lf (ok_BCst d_X3_readHeight_2 (by decide) rfl)))) (ok_nd (ok_nd (ok_lf (ok_CaV su_X3_stepsToNumber (by decide) rfl d_X3_readHeight_4 q595 q597 z46 q4 q598 ⟨by decide +kernel, by decide +kernel, by decide +kernel⟩ ⟨by decide, by decide⟩ rfl)) (ok_lf (ok_IfNe d_X3_readHeight_7 (by decide) rfl))) (ok_nd (ok_lf (ok_ICst d_X3_readHeight_10 (by decide) rfl)) (ok_lf (ok_ZRet d_X3_readHeight_11))))) (ok_nd (ok_nd (ok_nd (ok_lf (ok_ALdn d_X3_readHeight_12 rfl rfl)) (ok_lf (ok_ALdn d_X3_readHeight_13 rfl rfl))) (ok_nd (ok_lf (ok_GetI (by decide) (by decide) rfl d_X3_readHeight_14 q120 rfl)) (ok_lf (ok_PutIN (by decide) (by decide) rfl rfl (by decide +kernel) d_X3_readHeight_17 q69 rfl)))) (ok_nd (ok_nd (ok_lf (ok_ALdn d_X3_readHeight_20 rfl rfl)) (ok_lf (ok_CaV su_X3_step (by decide) rfl d_X3_readHeight_21 q510 q512 z41 q4 q513 ⟨by decide +kernel, by decide +kernel, by decide +kernel⟩ ⟨by decide, by decide⟩ rfl))) (ok_nd (ok_lf (ok_ICst d_X3_readHeight_24 (by decide) rfl)) (ok_lf (ok_ZRet d_X3_readHeight_25)))))
noncomputable def S_X3_readHeight : Sem := lockS (inl P_X3_readHeight 17 2) 0
theorem su_X3_readHeight {l : Launch} {G : Gm} : SemU l G yX3_readHeight (wsOf yX3_readHeight cX3_readHeight 2 (some .boolean)) 4 S_X3_readHeight := sem_lock (sem_inl 17 (by decide +kernel) rfl ok_X3_readHeight)
theorem d_X3_readSpread_0 : decode cX3_readSpread 0 = .ok (.aload_n 0, 1) := by decide +kernel
theorem d_X3_readSpread_1 : decode cX3_readSpread 1 = .ok (.iconst 0, 1) := by decide +kernel
theorem d_X3_readSpread_2 : decode cX3_readSpread 2 = .ok (.bipush 9, 2) := by decide +kernel
theorem d_X3_readSpread_4 : decode cX3_readSpread 4 = .ok (.invokevirtual 97, 3) := by decide +kernel
theorem d_X3_readSpread_7 : decode cX3_readSpread 7 = .ok (.ifCond .ne 5, 3) := by decide +kernel
theorem d_X3_readSpread_10 : decode cX3_readSpread 10 = .ok (.iconst 0, 1) := by decide +kernel
theorem d_X3_readSpread_11 : decode cX3_readSpread 11 = .ok (.ireturn, 1) := by decide +kernel
theorem d_X3_readSpread_12 : decode cX3_readSpread 12 = .ok (.aload_n 1, 1) := by decide +kernel
theorem d_X3_readSpread_13 : decode cX3_readSpread 13 = .ok (.aload_n 0, 1) := by decide +kernel
theorem d_X3_readSpread_14 : decode cX3_readSpread 14 = .ok (.getfield 28, 3) := by decide +kernel
theorem d_X3_readSpread_17 : decode cX3_readSpread 17 = .ok (.putfield 116, 3) := by decide +kernel
theorem d_X3_readSpread_20 : decode cX3_readSpread 20 = .ok (.aload_n 0, 1) := by decide +kernel
theorem d_X3_readSpread_21 : decode cX3_readSpread 21 = .ok (.invokevirtual 31, 3) := by decide +kernel
theorem d_X3_readSpread_24 : decode cX3_readSpread 24 = .ok (.iconst 1, 1) := by decide +kernel
theorem d_X3_readSpread_25 : decode cX3_readSpread 25 = .ok (.ireturn, 1) := by decide +kernel
noncomputable def P_X3_readSpread : Nat → Op := fun pc => nd 12 pc (nd 4 pc (nd 1 pc (lf 0 pc (oALd 0 1)) (nd 2 pc (lf 1 pc (oCst 0 2)) (lf 2 pc (oCst 9 4)))) (nd 10 pc (nd 7 pc (lf 4 pc (oCaV 3 3 S_X3_stepsToNumber 7)) (lf 7 pc (oIfEq 10 12))) (nd 11 pc (lf 10 pc (oCst 0 11)) (lf 11 pc (oZRet))))) (nd 20 pc (nd 14 pc (nd 13 pc (lf 12 pc (oALd 1 13)) (lf 13 pc (oALd 0 14))) (nd 17 pc (lf 14 pc (oGetI 3 5 17)) (lf 17 pc (oPutI 0 1 20)))) (nd 24 pc (nd 21 pc (lf 20 pc (oALd 0 21)) (lf 21 pc (oCaV 1 3 S_X3_step 24))) (nd 25 pc (lf 24 pc (oCst 1 25)) (lf 25 pc (oZRet)))))
theorem ok_X3_readSpread {l : Launch} {G : Gm} : ∀ pc, OkU (TXm l G (rmD 4) 2 cX3_readSpread RX3) (RXm l G (rmD 4) 2 cX3_readSpread RX3 (some .boolean)) pc (P_X3_readSpread pc) := fun pc => ok_nd (ok_nd (ok_nd (ok_lf (ok_ALdn d_X3_readSpread_0 rfl rfl)) (ok_nd (ok_lf (ok_ICst d_X3_readSpread_1 (by decide) rfl)) (ok_lf (ok_BCst d_X3_readSpread_2 (by decide) rfl)))) (ok_nd (ok_nd (ok_lf (ok_CaV su_X3_stepsToNumber (by decide) rfl d_X3_readSpread_4 q595 q597 z46 q4 q598 ⟨by decide +kernel, by decide +kernel, by decide +kernel⟩ ⟨by decide, by decide⟩ rfl)) (ok_lf (ok_IfNe d_X3_readSpread_7 (by decide) rfl))) (ok_nd (ok_lf (ok_ICst d_X3_readSpread_10 (by decide) rfl)) (ok_lf (ok_ZRet d_X3_readSpread_11))))) (ok_nd (ok_nd (ok_nd (ok_lf (ok_ALdn d_X3_readSpread_12 rfl rfl)) (ok_lf (ok_ALdn d_X3_readSpread_13 rfl rfl))) (ok_nd (ok_lf (ok_GetI (by decide) (by decide) rfl d_X3_readSpread_14 q120 rfl)) (ok_lf (ok_PutIN (by decide) (by decide) rfl rfl (by decide +kernel) d_X3_readSpread_17 q72 rfl)))) (ok_nd (ok_nd (ok_lf (ok_ALdn d_X3_readSpread_20 rfl rfl)) (ok_lf (ok_CaV su_X3_step (by decide) rfl d_X3_readSpread_21 q510 q512 z41 q4 q513 ⟨by decide +kernel, by decide +kernel, by decide +kernel⟩ ⟨by decide, by decide⟩ rfl))) (ok_nd (ok_lf (ok_ICst d_X3_readSpread_24 (by decide) rfl)) (ok_lf (ok_ZRet d_X3_readSpread_25)))))
noncomputable def S_X3_readSpread : Sem := lockS (inl P_X3_readSpread 17 2) 0
theorem su_X3_readSpread {l : Launch} {G : Gm} : SemU l G yX3_readSpread (wsOf yX3_readSpread cX3_readSpread 2 (some .boolean)) 4 S_X3_readSpread := sem_lock (sem_inl 17 (by decide +kernel) rfl ok_X3_readSpread)
theorem d_X3_readItem_0 : decode cX3_readItem 0 = .ok (.aload_n 0, 1) := by decide +kernel
theorem d_X3_readItem_1 : decode cX3_readItem 1 = .ok (.invokevirtual 38, 3) := by decide +kernel
theorem d_X3_readItem_4 : decode cX3_readItem 4 = .ok (.istore_n 2, 1) := by decide +kernel
theorem d_X3_readItem_5 : decode cX3_readItem 5 = .ok (.iload_n 2, 1) := by decide +kernel
theorem d_X3_readItem_6 : decode cX3_readItem 6 = .ok (.ifCond .lt 10, 3) := by decide +kernel
theorem d_X3_readItem_9 : decode cX3_readItem 9 = .ok (.aload_n 0, 1) := by decide +kernel
theorem d_X3_readItem_10 : decode cX3_readItem 10 = .ok (.aload_n 1, 1) := by decide +kernel
theorem d_X3_readItem_11 : decode cX3_readItem 11 = .ok (.iload_n 2, 1) := by decide +kernel
theorem d_X3_readItem_12 : decode cX3_readItem 12 = .ok (.invokevirtual 42, 3) := by decide +kernel
theorem d_X3_readItem_15 : decode cX3_readItem 15 = .ok (.ireturn, 1) := by decide +kernel
theorem d_X3_readItem_16 : decode cX3_readItem 16 = .ok (.aload_n 0, 1) := by decide +kernel
theorem d_X3_readItem_17 : decode cX3_readItem 17 = .ok (.ldc 46, 2) := by decide +kernel
theorem d_X3_readItem_19 : decode cX3_readItem 19 = .ok (.invokevirtual 48, 3) := by decide +kernel
theorem d_X3_readItem_22 : decode cX3_readItem 22 = .ok (.ifCond .eq 9, 3) := by decide +kernel
theorem d_X3_readItem_25 : decode cX3_readItem 25 = .ok (.aload_n 0, 1) := by decide +kernel
theorem d_X3_readItem_26 : decode cX3_readItem 26 = .ok (.aload_n 1, 1) := by decide +kernel
theorem d_X3_readItem_27 : decode cX3_readItem 27 = .ok (.invokevirtual 52, 3) := by decide +kernel
theorem d_X3_readItem_30 : decode cX3_readItem 30 = .ok (.ireturn, 1) := by decide +kernel
theorem d_X3_readItem_31 : decode cX3_readItem 31 = .ok (.aload_n 0, 1) := by decide +kernel
theorem d_X3_readItem_32 : decode cX3_readItem 32 = .ok (.ldc 55, 2) := by decide +kernel
theorem d_X3_readItem_34 : decode cX3_readItem 34 = .ok (.invokevirtual 48, 3) := by decide +kernel
theorem d_X3_readItem_37 : decode cX3_readItem 37 = .ok (.ifCond .eq 9, 3) := by decide +kernel
theorem d_X3_readItem_40 : decode cX3_readItem 40 = .ok (.aload_n 0, 1) := by decide +kernel
theorem d_X3_readItem_41 : decode cX3_readItem 41 = .ok (.aload_n 1, 1) := by decide +kernel
theorem d_X3_readItem_42 : decode cX3_readItem 42 = .ok (.invokevirtual 57, 3) := by decide +kernel
theorem d_X3_readItem_45 : decode cX3_readItem 45 = .ok (.ireturn, 1) := by decide +kernel
theorem d_X3_readItem_46 : decode cX3_readItem 46 = .ok (.aload_n 0, 1) := by decide +kernel
theorem d_X3_readItem_47 : decode cX3_readItem 47 = .ok (.ldc 60, 2) := by decide +kernel
theorem d_X3_readItem_49 : decode cX3_readItem 49 = .ok (.invokevirtual 48, 3) := by decide +kernel
theorem d_X3_readItem_52 : decode cX3_readItem 52 = .ok (.ifCond .eq 9, 3) := by decide +kernel
theorem d_X3_readItem_55 : decode cX3_readItem 55 = .ok (.aload_n 0, 1) := by decide +kernel
theorem d_X3_readItem_56 : decode cX3_readItem 56 = .ok (.aload_n 1, 1) := by decide +kernel
theorem d_X3_readItem_57 : decode cX3_readItem 57 = .ok (.invokevirtual 62, 3) := by decide +kernel
theorem d_X3_readItem_60 : decode cX3_readItem 60 = .ok (.ireturn, 1) := by decide +kernel
theorem d_X3_readItem_61 : decode cX3_readItem 61 = .ok (.iconst 0, 1) := by decide +kernel
theorem d_X3_readItem_62 : decode cX3_readItem 62 = .ok (.ireturn, 1) := by decide +kernel
noncomputable def P_X3_readItem : Nat → Op := fun pc => nd 31 pc (nd 15 pc (nd 6 pc (nd 4 pc (nd 1 pc (lf 0 pc (oALd 0 1)) (lf 1 pc (oCaV 1 3 S_X3_kindOfWord 4))) (nd 5 pc (lf 4 pc (oISt 2 5)) (lf 5 pc (oILd 2 6)))) (nd 10 pc (nd 9 pc (lf 6 pc (oIfLt 16 9)) (lf 9 pc (oALd 0 10))) (nd 11 pc (lf 10 pc (oALd 1 11)) (nd 12 pc (lf 11 pc (oILd 2 12)) (lf 12 pc (oCaV 3 3 S_X3_readDisputant 15)))))) (nd 22 pc (nd 17 pc (nd 16 pc (lf 15 pc (oZRet)) (lf 16 pc (oALd 0 17))) (nd 19 pc (lf 17 pc (oLdS 7 19)) (lf 19 pc (oCaV 2 3 S_X3_isWord 22)))) (nd 26 pc (nd 25 pc (lf 22 pc (oIfEq 31 25)) (lf 25 pc (oALd 0 26))) (nd 27 pc (lf 26 pc (oALd 1 27)) (nd 30 pc (lf 27 pc (oCaV 2 3 S_X3_readDispute 30)) (lf 30 pc (oZRet))))))) (nd 47 pc (nd 40 pc (nd 34 pc (nd 32 pc (lf 31 pc (oALd 0 32)) (lf 32 pc (oLdS 8 34))) (nd 37 pc (lf 34 pc (oCaV 2 3 S_X3_isWord 37)) (lf 37 pc (oIfEq 46 40)))) (nd 42 pc (nd 41 pc (lf 40 pc (oALd 0 41)) (lf 41 pc (oALd 1 42))) (nd 45 pc (lf 42 pc (oCaV 2 3 S_X3_readHeight 45)) (nd 46 pc (lf 45 pc (oZRet)) (lf 46 pc (oALd 0 47)))))) (nd 56 pc (nd 52 pc (nd 49 pc (lf 47 pc (oLdS 9 49)) (lf 49 pc (oCaV 2 3 S_X3_isWord 52))) (nd 55 pc (lf 52 pc (oIfEq 61 55)) (lf 55 pc (oALd 0 56)))) (nd 60 pc (nd 57 pc (lf 56 pc (oALd 1 57)) (lf 57 pc (oCaV 2 3 S_X3_readSpread 60))) (nd 61 pc (lf 60 pc (oZRet)) (nd 62 pc (lf 61 pc (oCst 0 62)) (lf 62 pc (oZRet)))))))
theorem ok_X3_readItem {l : Launch} {G : Gm} : ∀ pc, OkU (TXm l G (rmD 7) 3 cX3_readItem RX3) (RXm l G (rmD 7) 3 cX3_readItem RX3 (some .boolean)) pc (P_X3_readItem pc) := fun pc => ok_nd (ok_nd (ok_nd (ok_nd (ok_nd (ok_lf (ok_ALdn d_X3_readItem_0 rfl rfl)) (ok_lf (ok_CaV su_X3_kindOfWord (by decide) rfl d_X3_readItem_1 q525 q527 z43 q4 q528 ⟨by decide +kernel, by decide +kernel, by decide +kernel⟩ ⟨by decide, by decide⟩ rfl))) (ok_nd (ok_lf (ok_IStn d_X3_readItem_4 rfl rfl)) (ok_lf (ok_ILdn d_X3_readItem_5 rfl rfl)))) (ok_nd (ok_nd (ok_lf (ok_IfLt d_X3_readItem_6 (by decide) rfl)) (ok_lf (ok_ALdn d_X3_readItem_9 rfl rfl))) (ok_nd (ok_lf (ok_ALdn d_X3_readItem_10 rfl rfl)) (ok_nd (ok_lf (ok_ILdn d_X3_readItem_11 rfl rfl)) (ok_lf (ok_CaV su_X3_readDisputant (by decide) rfl d_X3_readItem_12 q588 q590 z45 q4 q591 ⟨by decide +kernel, by decide +kernel, by decide +kernel⟩ ⟨by decide, by decide⟩ rfl)))))) (ok_nd (ok_nd (ok_nd (ok_lf (ok_ZRet d_X3_readItem_15)) (ok_lf (ok_ALdn d_X3_readItem_16 rfl rfl))) (ok_nd (ok_lf (ok_LdS (tx := "dispute") d_X3_readItem_17 (List.mem_of_getElem? (i := 10) rfl) rfl)) (ok_lf (ok_CaV su_X3_isWord (by decide) rfl d_X3_readItem_19 q530 q532 z44 q4 q533 ⟨by decide +kernel, by decide +kernel, by decide +kernel⟩ ⟨by decide, by decide⟩ rfl)))) (ok_nd (ok_nd (ok_lf (ok_IfEq d_X3_readItem_22 (by decide) rfl)) (ok_lf (ok_ALdn d_X3_readItem_25 rfl rfl))) (ok_nd (ok_lf (ok_ALdn d_X3_readItem_26 rfl rfl)) (ok_nd (ok_lf (ok_CaV su_X3_readDispute (by decide) rfl d_X3_readItem_27 q602 q604 z47 q4 q605 ⟨by decide +kernel, by decide +kernel, by decide +kernel⟩ ⟨by decide, by decide⟩ rfl)) (ok_lf (ok_ZRet d_X3_readItem_30))))))) (ok_nd (ok_nd (ok_nd (ok_nd (ok_lf (ok_ALdn d_X3_readItem_31 rfl rfl)) (ok_lf (ok_LdS (tx := "height") d_X3_readItem_32 (List.mem_of_getElem? (i := 11) rfl) rfl))) (ok_nd (ok_lf (ok_CaV su_X3_isWord (by decide) rfl d_X3_readItem_34 q530 q532 z44 q4 q533 ⟨by decide +kernel, by decide +kernel, by decide +kernel⟩ ⟨by decide, by decide⟩ rfl)) (ok_lf (ok_IfEq d_X3_readItem_37 (by decide) rfl)))) (ok_nd (ok_nd (ok_lf (ok_ALdn d_X3_readItem_40 rfl rfl)) (ok_lf (ok_ALdn d_X3_readItem_41 rfl rfl))) (ok_nd (ok_lf (ok_CaV su_X3_readHeight (by decide) rfl d_X3_readItem_42 q607 q609 z48 q4 q610 ⟨by decide +kernel, by decide +kernel, by decide +kernel⟩ ⟨by decide, by decide⟩ rfl)) (ok_nd (ok_lf (ok_ZRet d_X3_readItem_45)) (ok_lf (ok_ALdn d_X3_readItem_46 rfl rfl)))))) (ok_nd (ok_nd (ok_nd (ok_lf (ok_LdS (tx := "spread") d_X3_readItem_47 (List.mem_of_getElem? (i := 12) rfl) rfl)) (ok_lf (ok_CaV su_X3_isWord (by decide) rfl d_X3_readItem_49 q530 q532 z44 q4 q533 ⟨by decide +kernel, by decide +kernel, by decide +kernel⟩ ⟨by decide, by decide⟩ rfl))) (ok_nd (ok_lf (ok_IfEq d_X3_readItem_52 (by decide) rfl)) (ok_lf (ok_ALdn d_X3_readItem_55 rfl rfl)))) (ok_nd (ok_nd (ok_lf (ok_ALdn d_X3_readItem_56 rfl rfl)) (ok_lf (ok_CaV su_X3_readSpread (by decide) rfl d_X3_readItem_57 q612 q614 z49 q4 q615 ⟨by decide +kernel, by decide +kernel, by decide +kernel⟩ ⟨by decide, by decide⟩ rfl))) (ok_nd (ok_lf (ok_ZRet d_X3_readItem_60)) (ok_nd (ok_lf (ok_ICst d_X3_readItem_61 (by decide) rfl)) (ok_lf (ok_ZRet d_X3_readItem_62)))))))
noncomputable def S_X3_readItem : Sem := lockS (inl P_X3_readItem 38 3) 0
theorem su_X3_readItem {l : Launch} {G : Gm} : SemU l G yX3_readItem (wsOf yX3_readItem cX3_readItem 3 (some .boolean)) 7 S_X3_readItem := sem_lock (sem_inl 38 (by decide +kernel) rfl ok_X3_readItem)
theorem d_X3_read_0 : decode cX3_read 0 = .ok (.aload_n 0, 1) := by decide +kernel
theorem d_X3_read_1 : decode cX3_read 1 = .ok (.iconst 0, 1) := by decide +kernel
theorem d_X3_read_2 : decode cX3_read 2 = .ok (.putfield 25, 3) := by decide +kernel
theorem d_X3_read_5 : decode cX3_read 5 = .ok (.aload_n 0, 1) := by decide +kernel
theorem d_X3_read_6 : decode cX3_read 6 = .ok (.invokevirtual 31, 3) := by decide +kernel
theorem d_X3_read_9 : decode cX3_read 9 = .ok (.iconst 1, 1) := by decide +kernel
theorem d_X3_read_10 : decode cX3_read 10 = .ok (.istore_n 2, 1) := by decide +kernel
theorem d_X3_read_11 : decode cX3_read 11 = .ok (.iload_n 2, 1) := by decide +kernel
theorem d_X3_read_12 : decode cX3_read 12 = .ok (.bipush 120, 2) := by decide +kernel
theorem d_X3_read_14 : decode cX3_read 14 = .ok (.if_icmp .gt 44, 3) := by decide +kernel
theorem d_X3_read_17 : decode cX3_read 17 = .ok (.aload_n 0, 1) := by decide +kernel
theorem d_X3_read_18 : decode cX3_read 18 = .ok (.aload_n 1, 1) := by decide +kernel
theorem d_X3_read_19 : decode cX3_read 19 = .ok (.invokevirtual 34, 3) := by decide +kernel
theorem d_X3_read_22 : decode cX3_read 22 = .ok (.ifCond .ne 6, 3) := by decide +kernel
theorem d_X3_read_25 : decode cX3_read 25 = .ok (.goto 33, 3) := by decide +kernel
theorem d_X3_read_28 : decode cX3_read 28 = .ok (.aload_n 0, 1) := by decide +kernel
theorem d_X3_read_29 : decode cX3_read 29 = .ok (.getfield 19, 3) := by decide +kernel
theorem d_X3_read_32 : decode cX3_read 32 = .ok (.ifCond .ne 5, 3) := by decide +kernel
theorem d_X3_read_35 : decode cX3_read 35 = .ok (.iload_n 2, 1) := by decide +kernel
theorem d_X3_read_36 : decode cX3_read 36 = .ok (.ireturn, 1) := by decide +kernel
theorem d_X3_read_37 : decode cX3_read 37 = .ok (.aload_n 0, 1) := by decide +kernel
theorem d_X3_read_38 : decode cX3_read 38 = .ok (.getfield 19, 3) := by decide +kernel
theorem d_X3_read_41 : decode cX3_read 41 = .ok (.iconst 3, 1) := by decide +kernel
theorem d_X3_read_42 : decode cX3_read 42 = .ok (.if_icmp .eq 6, 3) := by decide +kernel
theorem d_X3_read_45 : decode cX3_read 45 = .ok (.goto 13, 3) := by decide +kernel
theorem d_X3_read_48 : decode cX3_read 48 = .ok (.aload_n 0, 1) := by decide +kernel
theorem d_X3_read_49 : decode cX3_read 49 = .ok (.invokevirtual 31, 3) := by decide +kernel
theorem d_X3_read_52 : decode cX3_read 52 = .ok (.iinc 2 1, 3) := by decide +kernel
theorem d_X3_read_55 : decode cX3_read 55 = .ok (.goto (-44), 3) := by decide +kernel
theorem d_X3_read_58 : decode cX3_read 58 = .ok (.iconst (-1), 1) := by decide +kernel
theorem d_X3_read_59 : decode cX3_read 59 = .ok (.aload_n 0, 1) := by decide +kernel
theorem d_X3_read_60 : decode cX3_read 60 = .ok (.getfield 22, 3) := by decide +kernel
theorem d_X3_read_63 : decode cX3_read 63 = .ok (.isub, 1) := by decide +kernel
theorem d_X3_read_64 : decode cX3_read 64 = .ok (.ireturn, 1) := by decide +kernel
noncomputable def P_X3_read : Nat → Op := fun pc => nd 32 pc (nd 12 pc (nd 6 pc (nd 2 pc (nd 1 pc (lf 0 pc (oALd 0 1)) (lf 1 pc (oCst 0 2))) (nd 5 pc (lf 2 pc (oPutI 3 4 5)) (lf 5 pc (oALd 0 6)))) (nd 10 pc (nd 9 pc (lf 6 pc (oCaV 1 3 S_X3_step 9)) (lf 9 pc (oCst 1 10))) (nd 11 pc (lf 10 pc (oISt 2 11)) (lf 11 pc (lockO (oILd 2 12) 0))))) (nd 19 pc (nd 17 pc (nd 14 pc (lf 12 pc (oCst 120 14)) (lf 14 pc (oCpGt 58 17))) (nd 18 pc (lf 17 pc (oALd 0 18)) (lf 18 pc (oALd 1 19)))) (nd 25 pc (nd 22 pc (lf 19 pc (oCaV 2 3 S_X3_readItem 22)) (lf 22 pc (oIfEq 25 28))) (nd 28 pc (lf 25 pc (oGo 58)) (nd 29 pc (lf 28 pc (oALd 0 29)) (lf 29 pc (oGetI 3 2 32))))))) (nd 48 pc (nd 38 pc (nd 36 pc (nd 35 pc (lf 32 pc (oIfEq 35 37)) (lf 35 pc (oILd 2 36))) (nd 37 pc (lf 36 pc (oIRet)) (lf 37 pc (oALd 0 38)))) (nd 42 pc (nd 41 pc (lf 38 pc (oGetI 3 2 41)) (lf 41 pc (oCst 3 42))) (nd 45 pc (lf 42 pc (oCpEq 48 45)) (lf 45 pc (oGo 58))))) (nd 58 pc (nd 52 pc (nd 49 pc (lf 48 pc (oALd 0 49)) (lf 49 pc (oCaV 1 3 S_X3_step 52))) (nd 55 pc (lf 52 pc (oInc 2 1 55)) (lf 55 pc (oGo 11)))) (nd 60 pc (nd 59 pc (lf 58 pc (oCst (-1) 59)) (lf 59 pc (oALd 0 60))) (nd 63 pc (lf 60 pc (oGetI 3 3 63)) (nd 64 pc (lf 63 pc (oBin (fun x y => x - y) 64)) (lf 64 pc (oIRet)))))))
theorem ok_X3_read {l : Launch} {G : Gm} : ∀ pc, OkU (TXm l G (rmD 8) 3 cX3_read RX3) (RXm l G (rmD 8) 3 cX3_read RX3 (some .int)) pc (P_X3_read pc) := fun pc => ok_nd (ok_nd (ok_nd (ok_nd (ok_nd (ok_lf (ok_ALdn d_X3_read_0 rfl rfl)) (ok_lf (ok_ICst d_X3_read_1 (by decide) rfl))) (ok_nd (ok_lf (ok_PutI (by decide) (by decide) rfl rfl (by decide +kernel) d_X3_read_2 q119 rfl)) (ok_lf (ok_ALdn d_X3_read_5 rfl rfl)))) (ok_nd (ok_nd (ok_lf (ok_CaV su_X3_step (by decide) rfl d_X3_read_6 q510 q512 z41 q4 q513 ⟨by decide +kernel, by decide +kernel, by decide +kernel⟩ ⟨by decide, by decide⟩ rfl)) (ok_lf (ok_ICst d_X3_read_9 (by decide) rfl))) (ok_nd (ok_lf (ok_IStn d_X3_read_10 rfl rfl)) (ok_lf (ok_lk (ok_ILdn d_X3_read_11 rfl rfl)))))) (ok_nd (ok_nd (ok_nd (ok_lf (ok_BCst d_X3_read_12 (by decide) rfl)) (ok_lf (ok_CpGt d_X3_read_14 (by decide) rfl))) (ok_nd (ok_lf (ok_ALdn d_X3_read_17 rfl rfl)) (ok_lf (ok_ALdn d_X3_read_18 rfl rfl)))) (ok_nd (ok_nd (ok_lf (ok_CaV su_X3_readItem (by decide) rfl d_X3_read_19 q521 q523 z42 q4 q524 ⟨by decide +kernel, by decide +kernel, by decide +kernel⟩ ⟨by decide, by decide⟩ rfl)) (ok_lf (ok_IfNe d_X3_read_22 (by decide) rfl))) (ok_nd (ok_lf (ok_Go d_X3_read_25 (by decide))) (ok_nd (ok_lf (ok_ALdn d_X3_read_28 rfl rfl)) (ok_lf (ok_GetI (by decide) (by decide) rfl d_X3_read_29 q117 rfl))))))) (ok_nd (ok_nd (ok_nd (ok_nd (ok_lf (ok_IfNe d_X3_read_32 (by decide) rfl)) (ok_lf (ok_ILdn d_X3_read_35 rfl rfl))) (ok_nd (ok_lf (ok_IRet d_X3_read_36)) (ok_lf (ok_ALdn d_X3_read_37 rfl rfl)))) (ok_nd (ok_nd (ok_lf (ok_GetI (by decide) (by decide) rfl d_X3_read_38 q117 rfl)) (ok_lf (ok_ICst d_X3_read_41 (by decide) rfl))) (ok_nd (ok_lf (ok_CpEq d_X3_read_42 (by decide) rfl)) (ok_lf (ok_Go d_X3_read_45 (by decide)))))) (ok_nd (ok_nd (ok_nd (ok_lf (ok_ALdn d_X3_read_48 rfl rfl)) (ok_lf (ok_CaV su_X3_step (by decide) rfl d_X3_read_49 q510 q512 z41 q4 q513 ⟨by decide +kernel, by decide +kernel, by decide +kernel⟩ ⟨by decide, by decide⟩ rfl))) (ok_nd (ok_lf (ok_Inc d_X3_read_52 (by decide) rfl)) (ok_lf (ok_Go d_X3_read_55 (by decide))))) (ok_nd (ok_nd (ok_lf (ok_ICst d_X3_read_58 (by decide) rfl)) (ok_lf (ok_ALdn d_X3_read_59 rfl rfl))) (ok_nd (ok_lf (ok_GetI (by decide) (by decide) rfl d_X3_read_60 q118 rfl)) (ok_nd (ok_lf (ok_isub d_X3_read_63 rfl)) (ok_lf (ok_IRet d_X3_read_64)))))))
noncomputable def S_X3_read : Sem := lockS (inl P_X3_read 30000 3) 0
theorem su_X3_read {l : Launch} {G : Gm} : SemU l G yX3_read (wsOf yX3_read cX3_read 3 (some .int)) 8 S_X3_read := sem_lock (sem_inl 30000 (by decide +kernel) rfl ok_X3_read)
